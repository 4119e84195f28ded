theorem mck_all {j pc : Nat} (hj : j < 341) (h : pc < mlen j) : mck j pc = true := sorry
