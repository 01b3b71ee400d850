def gt2 (x y : Int) : Int := if y < x then x else y
/-- the end of an operation as the reference has it; none: 0 -/
def eE (σ : Mem) (x : Int) : Int := if x < 0 then 0 else σ 45 0 x + σ 38 0 (14 + 2 * x)
def rhV (σ : Mem) (o b : Int) : Int := gt2 (gt2 (σ 38 0 (1 + 3 * (o / 4))) (σ 43 0 o)) (gt2 (eE σ (if o % 4 = 0 then -6 else o - 1)) (eE σ b))
