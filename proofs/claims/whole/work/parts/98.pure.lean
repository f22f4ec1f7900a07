theorem pure_ok : Pure := pure_fin
