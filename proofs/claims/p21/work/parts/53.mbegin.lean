/-! THE MODEL: an access begins -/
theorem mNote_A {s : Sx} {a : Nat} {x : Int32} : (mNote s a x).A = s.A := rfl
theorem mNote_P {s : Sx} {a b k : Nat} {x : Int32} (h : k < 7) : (mNote s a x).P b k = s.P b k := by
  unfold mNote
  rw [sP_nk (by omega), sP_nk (by omega)]
theorem mNote_Pn {s : Sx} {a b k : Nat} {x : Int32} (h : ¬ b = a) : (mNote s a x).P b k = s.P b k := by
  unfold mNote
  rw [sP_na h, sP_na h]
theorem mBgB_H {s : Sx} {a b : Nat} {c : Int32} {wr : Prop} {hd : Decidable wr} : (mBgB a c wr s b).H = s.H := by
  unfold mBgB
  repeat' split
  all_goals rfl
theorem mBgB_C {s : Sx} {a b : Nat} {c : Int32} {wr : Prop} {hd : Decidable wr} : (mBgB a c wr s b).C = s.C := by
  unfold mBgB
  repeat' split
  all_goals rfl
theorem mBgB_A {s : Sx} {a b : Nat} {c : Int32} {wr : Prop} {hd : Decidable wr} : (mBgB a c wr s b).A = s.A := by
  unfold mBgB
  repeat' split
  all_goals rfl
theorem mBgB_P {s : Sx} {a b k q : Nat} {c : Int32} {wr : Prop} {hd : Decidable wr} (h : k < 7) : (mBgB a c wr s b).P q k = s.P q k := by
  unfold mBgB
  repeat' split
  all_goals first | rfl | exact mNote_P h
theorem mIt_H {s : Sx} {a : Nat} {c : Int32} {wr : Prop} {hd : Decidable wr} : ∀ n, (itr (mBgB a c wr) n s).H = s.H
  | 0 => rfl
  | n + 1 => by rw [itr, mBgB_H, mIt_H n]
theorem mIt_C {s : Sx} {a : Nat} {c : Int32} {wr : Prop} {hd : Decidable wr} : ∀ n, (itr (mBgB a c wr) n s).C = s.C
  | 0 => rfl
  | n + 1 => by rw [itr, mBgB_C, mIt_C n]
theorem mIt_A {s : Sx} {a : Nat} {c : Int32} {wr : Prop} {hd : Decidable wr} : ∀ n, (itr (mBgB a c wr) n s).A = s.A
  | 0 => rfl
  | n + 1 => by rw [itr, mBgB_A, mIt_A n]
theorem mIt_P {s : Sx} {a k q : Nat} {c : Int32} {wr : Prop} {hd : Decidable wr} (h : k < 7) : ∀ n, (itr (mBgB a c wr) n s).P q k = s.P q k
  | 0 => rfl
  | n + 1 => by rw [itr, mBgB_P h, mIt_P h n]
section MM
variable {L : Nat} {g : Nat → Nat → Int32} {s : Sx} {f : Nat → Int32}
end MM
