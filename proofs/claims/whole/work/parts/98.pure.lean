theorem pure_ok : Pure := sorry
