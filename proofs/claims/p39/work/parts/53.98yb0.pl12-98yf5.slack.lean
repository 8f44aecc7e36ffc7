section
/-! conditions of the class: hour, gap, ends, can, with kF behind each call; told = 12 (wip/pe/symg5.py) -/
end
section
/-! conditions of the class: hour, gap, ends, can, with kF behind each call; told = 49 (wip/pe/symg5.py) -/
end
section
/-! conditions of the reference: hour, gap, ends, can, lays, gapNow (wip/pe/symg5.py) -/
end
section
/-! THE LAW: the levels of a WAY on both sides (wip/pe/mkl3.py) -/
section
variable {S : sm_C} {d : Nat} {Φ : sm_Z → Prop} {I : sm_I} {L : sm_L} {R : sm_R}
end
end
section
/-! THE LAW: what the levels of a WAY tell (wip/pe/mkp6.py) -/
def hv (D : Nat → Nat → Int) (i j : Nat) (m : Int32) : Int := if m = 0 then -(D j i) else D i j
section
variable {S : sm_C} {I : sm_I} {L : sm_L} {R : sm_R} {r : Int32}
end
end
section
/-! THE LAW: pairs out of the levels of a WAY: hour (wip/pe/mkp6.py) -/
section
variable {S : sm_C} {I : sm_I} {L : sm_L} {R : sm_R} {r : Int32}
end
end
section
/-! THE LAW: pairs out of the levels of a WAY: gap (wip/pe/mkp6.py) -/
section
variable {S : sm_C} {I : sm_I} {L : sm_L} {R : sm_R} {r : Int32}
end
end
section
/-! THE LAW: all WAYS' levels (wip/pe/mkp7.py) -/
noncomputable def tD (n : Nat) (C : List tC) : Nat → Nat → Int := @dite _ (∃ D, ttop n C D) (Classical.propDecidable _) (fun h => Classical.choose h) (fun _ _ _ => 0)
noncomputable def kv (qt : Nat) (I : sm_I) (m : Int32) (i j w : Nat) : Int32 := Int32.ofInt (hv (tD (kn qt I) (cl (kB0 qt I) (kC0 qt I) (kwy qt I w) (kys qt I).length)) i j m)
def es (m o x : Int32) : Int32 := if o = -2 then x else if m = 0 then (if o ≤ x then o else x) else (if x ≤ o then o else x)
end
section
/-! THE LAW: pairs out of all WAYS' levels: ends (wip/pe/mkp7.py) -/
section
variable {S : sm_C} {I : sm_I} {L : sm_L} {R : sm_R} {r : Int32}
end
end
section
/-! THE LAW: pairs out of all WAYS' levels: can (wip/pe/mkp7.py) -/
section
variable {S : sm_C} {I : sm_I} {L : sm_L} {R : sm_R} {r : Int32}
end
end
section
/-! conditions of the class: ask, next, left, with kF behind each call; told = 12 (wip/pe/symg5.py) -/
end
section
/-! conditions of the class: ask, next, left, with kF behind each call; told = 49 (wip/pe/symg5.py) -/
end
section
/-! conditions of the reference: ask, next, left, leftOf, isLeft, answers (wip/pe/symg5.py) -/
end
section
/-! what is asked, purely (wip/pe/mka2.py) -/
/-- whether there are HOURS with the answers from QUESTION q on -/
def lf (n : Nat) (aq : Nat → Nat → List tC) (yes no : Nat → Bool) : Nat → Nat → List tC → Prop
  | 0, _, _ => True
  | m + 1, q, C => if yes q = true then ¬ tno n (aq q 0 ++ C) ∧ lf n aq yes no m (q + 1) (aq q 0 ++ C) else if no q = true then (¬ tno n (aq q 1 ++ C) ∧ lf n aq yes no m (q + 1) (aq q 1 ++ C)) ∨ (¬ tno n (aq q 2 ++ C) ∧ lf n aq yes no m (q + 1) (aq q 2 ++ C)) else lf n aq yes no m (q + 1) C
section
variable {n m q : Nat} {aq : Nat → Nat → List tC} {yes no : Nat → Bool} {C : List tC}
variable {s : Nat → Bool}
end
end
section
/-! the class's asking, exact; told = 12 (wip/pe/mka2.py) -/
section
variable {S : sm_C} {d : Nat} {Φ : sm_Z → Prop} {I : sm_I} {L : sm_L} {R : sm_R}
end
end
section
/-! the class's asking, exact; told = 49 (wip/pe/mka2.py) -/
section
variable {S : sm_C} {d : Nat} {Φ : sm_Z → Prop} {I : sm_I} {L : sm_L} {R : sm_R}
end
end
section
/-! the reference's asking, exact (wip/pe/mka2.py) -/
section
variable {S : sm_C} {d : Nat} {Φ : sm_Z → Prop} {I : sm_I} {L : sm_L} {R : sm_R}
end
end
section
/-! THE LAW: what is asked of all WAYS: helps (wip/pe/mka3.py) -/
/-- which is asked next -/
def mx (a b : Int32) : Int32 := if a < b then b else a
section
variable {S : sm_C} {Φ : sm_Z → Prop} {L : sm_L} {R : sm_R}
end
section
variable {S : sm_C} {Φ : sm_Z → Prop} {L : sm_L} {R : sm_R}
end
end
section
/-! THE LAW: pairs out of what is asked: ask (wip/pe/mka3.py) -/
section
variable {S : sm_C} {I : sm_I} {L : sm_L} {R : sm_R} {r : Int32}
end
end
section
/-! THE LAW: pairs out of what is asked: next (wip/pe/mka3.py) -/
section
variable {S : sm_C} {I : sm_I} {L : sm_L} {R : sm_R} {r : Int32}
end
end
section
/-! THE LAW: pairs out of what is asked: left (wip/pe/mka3.py) -/
section
variable {S : sm_C} {I : sm_I} {L : sm_L} {R : sm_R} {r : Int32}
end
end
section
/-! conditions of the class: setWays, slack, drawn, whereAt, with kF behind each call; told = 12 (wip/pe/symg5.py) -/
end
section
/-! conditions of the class: setWays, slack, drawn, whereAt, with kF behind each call; told = 49 (wip/pe/symg5.py) -/
end
section
/-! conditions of the reference: setWays, slack, drawn, laysSet (wip/pe/symg5.py) -/
end
section
/-! conditions of the class: takes, minuteWith; told = 12 (wip/pe/symg7.py) -/
end
section
/-! conditions of the class: takes, minuteWith; told = 49 (wip/pe/symg7.py) -/
end
section
/-! HOURS that are SET on a closed table (wip/pe/mkv1.py) -/
section
variable {n : Nat} {C : List tC} {D E : Nat → Nat → Int} {σ : Nat → Bool} {h : Nat → Int}
end
end
section
/-! the class's takes, exact; told = 12 (wip/pe/mkv1.py) -/
section
variable {S : sm_C} {d : Nat} {Φ : sm_Z → Prop} {I : sm_I} {L : sm_L} {R : sm_R}
end
end
section
/-! the class's takes, exact; told = 49 (wip/pe/mkv1.py) -/
section
variable {S : sm_C} {d : Nat} {Φ : sm_Z → Prop} {I : sm_I} {L : sm_L} {R : sm_R}
end
end
section
/-! the reference's laysSet, exact (wip/pe/mkv1.py) -/
section
variable {S : sm_C} {d : Nat} {Φ : sm_Z → Prop} {I : sm_I} {L : sm_L} {R : sm_R}
end
end
section
/-! THE LAW: pairs with HOURS that are SET: setWays (wip/pe/mkv1.py) -/
section
variable {S : sm_C} {I : sm_I} {L : sm_L} {R : sm_R} {r : Int32}
end
end
section
/-! THE LAW: pairs with HOURS that are SET: slack (wip/pe/mkv1.py) -/
section
variable {S : sm_C} {I : sm_I} {L : sm_L} {R : sm_R} {r : Int32}
end
end
