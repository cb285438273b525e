theorem owed_ok : ∃ Inv, Owed Inv := sorry
