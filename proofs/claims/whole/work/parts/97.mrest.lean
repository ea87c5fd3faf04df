/-! rests() of the reference -/
def getB (a c e k l : Int32) : Int32 := if k = 1 then (if l = 1 then a else -c) else (if l = 1 then e else 0)
section TQ
variable {E : EV} {d x : Nat} {F : FT} {G : GT} {b : Bool} {o : SG} {a c e k l : Int32}
theorem e_getsBy : Tm E d 229 0 [some (vi a), some (vi c), some (vi e), some (vi k), some (vi l)] [] (cC x) F G (Rs b) (some (vi (getB a c e k l))) (cC x, F, G, Rs b) := by
  refine t_run 2 rfl ?_
  refine t_ic_ne k229_2 (fun h2 => ?_) (fun h2 => ?_)
  · refine t_run 2 rfl ?_
    refine t_ic_ne k229_23 (fun h23 => ?_) (fun h23 => ?_)
    · refine t_run 1 rfl ?_
      exact t_ir k229_31 rfl (by simp [getB, *])
    · refine t_run 2 rfl ?_
      exact t_ir k229_31 rfl (by simp [getB, *])
  · refine t_run 2 rfl ?_
    refine t_ic_ne k229_8 (fun h8 => ?_) (fun h8 => ?_)
    · refine t_run 3 rfl ?_
      exact t_ir k229_31 rfl (by simp [getB, *])
    · refine t_run 2 rfl ?_
      exact t_ir k229_31 rfl (by simp [getB, *])
end TQ
