/-! element -/
/-- the reference's state with an element -/
def mel (I : st_I) (p1 p2 p3 : Int32) : st_I := (st_w (st_w (st_w (st_w (st_w (st_w (st_w (st_w (st_w (st_w (st_w (st_w (st_w (st_w (st_w (st_w (st_w (st_w (st_w (st_w (st_w (st_w (st_w (st_w (st_w (st_w (st_w I 166 10 (0 : Int32)) 173 16 (I 173 (Int32.toNatClampNeg p2))) 174 16 (I 174 (Int32.toNatClampNeg p2))) 175 16 (I 175 (Int32.toNatClampNeg p2))) 176 16 (I 176 (Int32.toNatClampNeg p2))) 177 16 (I 177 (Int32.toNatClampNeg p2))) 178 16 (I 178 (Int32.toNatClampNeg p2))) 179 16 (I 179 (Int32.toNatClampNeg p2))) 180 16 (I 180 (Int32.toNatClampNeg p2))) 181 16 (I 181 (Int32.toNatClampNeg p2))) 182 16 (I 182 (Int32.toNatClampNeg p2))) 173 (Int32.toNatClampNeg p1) (0 : Int32)) 174 (Int32.toNatClampNeg p1) (0 : Int32)) 175 (Int32.toNatClampNeg p1) (0 : Int32)) 176 (Int32.toNatClampNeg p1) (0 : Int32)) 177 (Int32.toNatClampNeg p1) (0 : Int32)) 178 (Int32.toNatClampNeg p1) (0 : Int32)) 179 (Int32.toNatClampNeg p1) (0 : Int32)) 180 (Int32.toNatClampNeg p1) (0 : Int32)) 181 (Int32.toNatClampNeg p1) (0 : Int32)) 182 (Int32.toNatClampNeg p1) (0 : Int32)) 173 (Int32.toNatClampNeg p1) (1 : Int32)) 174 (Int32.toNatClampNeg p1) ((st_w (st_w (st_w (st_w (st_w (st_w (st_w (st_w (st_w (st_w (st_w (st_w (st_w I 166 10 (0 : Int32)) 173 16 (I 173 (Int32.toNatClampNeg p2))) 174 16 (I 174 (Int32.toNatClampNeg p2))) 175 16 (I 175 (Int32.toNatClampNeg p2))) 176 16 (I 176 (Int32.toNatClampNeg p2))) 177 16 (I 177 (Int32.toNatClampNeg p2))) 178 16 (I 178 (Int32.toNatClampNeg p2))) 179 16 (I 179 (Int32.toNatClampNeg p2))) 180 16 (I 180 (Int32.toNatClampNeg p2))) 181 16 (I 181 (Int32.toNatClampNeg p2))) 182 16 (I 182 (Int32.toNatClampNeg p2))) 173 (Int32.toNatClampNeg p1) (0 : Int32)) 174 (Int32.toNatClampNeg p1) (0 : Int32)) 174 16)) 175 (Int32.toNatClampNeg p1) ((st_w (st_w (st_w (st_w (st_w (st_w (st_w (st_w (st_w (st_w (st_w (st_w (st_w (st_w I 166 10 (0 : Int32)) 173 16 (I 173 (Int32.toNatClampNeg p2))) 174 16 (I 174 (Int32.toNatClampNeg p2))) 175 16 (I 175 (Int32.toNatClampNeg p2))) 176 16 (I 176 (Int32.toNatClampNeg p2))) 177 16 (I 177 (Int32.toNatClampNeg p2))) 178 16 (I 178 (Int32.toNatClampNeg p2))) 179 16 (I 179 (Int32.toNatClampNeg p2))) 180 16 (I 180 (Int32.toNatClampNeg p2))) 181 16 (I 181 (Int32.toNatClampNeg p2))) 182 16 (I 182 (Int32.toNatClampNeg p2))) 173 (Int32.toNatClampNeg p1) (0 : Int32)) 174 (Int32.toNatClampNeg p1) (0 : Int32)) 175 (Int32.toNatClampNeg p1) (0 : Int32)) 175 16)) 176 (Int32.toNatClampNeg p1) (if ((st_w (st_w (st_w (st_w (st_w (st_w (st_w (st_w (st_w I 166 10 (0 : Int32)) 173 16 (I 173 (Int32.toNatClampNeg p2))) 174 16 (I 174 (Int32.toNatClampNeg p2))) 175 16 (I 175 (Int32.toNatClampNeg p2))) 176 16 (I 176 (Int32.toNatClampNeg p2))) 177 16 (I 177 (Int32.toNatClampNeg p2))) 178 16 (I 178 (Int32.toNatClampNeg p2))) 179 16 (I 179 (Int32.toNatClampNeg p2))) 180 16 (I 180 (Int32.toNatClampNeg p2))) 180 (Int32.toNatClampNeg p2)) = (7 : Int32) then ((((st_w (st_w (st_w (st_w (st_w I 166 10 (0 : Int32)) 173 16 (I 173 (Int32.toNatClampNeg p2))) 174 16 (I 174 (Int32.toNatClampNeg p2))) 175 16 (I 175 (Int32.toNatClampNeg p2))) 176 16 (I 176 (Int32.toNatClampNeg p2))) 176 (Int32.toNatClampNeg p2)) + (64 : Int32)) + (((64 : Int32) * (((st_w (st_w (st_w (st_w (st_w (st_w (st_w (st_w (st_w (st_w I 166 10 (0 : Int32)) 173 16 (I 173 (Int32.toNatClampNeg p2))) 174 16 (I 174 (Int32.toNatClampNeg p2))) 175 16 (I 175 (Int32.toNatClampNeg p2))) 176 16 (I 176 (Int32.toNatClampNeg p2))) 177 16 (I 177 (Int32.toNatClampNeg p2))) 178 16 (I 178 (Int32.toNatClampNeg p2))) 179 16 (I 179 (Int32.toNatClampNeg p2))) 180 16 (I 180 (Int32.toNatClampNeg p2))) 181 16 (I 181 (Int32.toNatClampNeg p2))) 181 (Int32.toNatClampNeg p2)) + ((st_w (st_w (st_w (st_w (st_w (st_w (st_w (st_w (st_w (st_w (st_w I 166 10 (0 : Int32)) 173 16 (I 173 (Int32.toNatClampNeg p2))) 174 16 (I 174 (Int32.toNatClampNeg p2))) 175 16 (I 175 (Int32.toNatClampNeg p2))) 176 16 (I 176 (Int32.toNatClampNeg p2))) 177 16 (I 177 (Int32.toNatClampNeg p2))) 178 16 (I 178 (Int32.toNatClampNeg p2))) 179 16 (I 179 (Int32.toNatClampNeg p2))) 180 16 (I 180 (Int32.toNatClampNeg p2))) 181 16 (I 181 (Int32.toNatClampNeg p2))) 182 16 (I 182 (Int32.toNatClampNeg p2))) 182 (Int32.toNatClampNeg p2)))) * p3)) else (if ((st_w (st_w (st_w (st_w (st_w (st_w (st_w (st_w (st_w I 166 10 (0 : Int32)) 173 16 (I 173 (Int32.toNatClampNeg p2))) 174 16 (I 174 (Int32.toNatClampNeg p2))) 175 16 (I 175 (Int32.toNatClampNeg p2))) 176 16 (I 176 (Int32.toNatClampNeg p2))) 177 16 (I 177 (Int32.toNatClampNeg p2))) 178 16 (I 178 (Int32.toNatClampNeg p2))) 179 16 (I 179 (Int32.toNatClampNeg p2))) 180 16 (I 180 (Int32.toNatClampNeg p2))) 180 (Int32.toNatClampNeg p2)) = (6 : Int32) then (((st_w (st_w (st_w (st_w (st_w I 166 10 (0 : Int32)) 173 16 (I 173 (Int32.toNatClampNeg p2))) 174 16 (I 174 (Int32.toNatClampNeg p2))) 175 16 (I 175 (Int32.toNatClampNeg p2))) 176 16 (I 176 (Int32.toNatClampNeg p2))) 176 (Int32.toNatClampNeg p2)) + ((64 : Int32) * p3)) else (((st_w (st_w (st_w (st_w (st_w I 166 10 (0 : Int32)) 173 16 (I 173 (Int32.toNatClampNeg p2))) 174 16 (I 174 (Int32.toNatClampNeg p2))) 175 16 (I 175 (Int32.toNatClampNeg p2))) 176 16 (I 176 (Int32.toNatClampNeg p2))) 176 (Int32.toNatClampNeg p2)) + ((if ((st_w (st_w (st_w (st_w (st_w (st_w (st_w (st_w (st_w I 166 10 (0 : Int32)) 173 16 (I 173 (Int32.toNatClampNeg p2))) 174 16 (I 174 (Int32.toNatClampNeg p2))) 175 16 (I 175 (Int32.toNatClampNeg p2))) 176 16 (I 176 (Int32.toNatClampNeg p2))) 177 16 (I 177 (Int32.toNatClampNeg p2))) 178 16 (I 178 (Int32.toNatClampNeg p2))) 179 16 (I 179 (Int32.toNatClampNeg p2))) 180 16 (I 180 (Int32.toNatClampNeg p2))) 180 (Int32.toNatClampNeg p2)) = (0 : Int32) then (0 : Int32) else (if (5 : Int32) < ((st_w (st_w (st_w (st_w (st_w (st_w (st_w (st_w (st_w I 166 10 (0 : Int32)) 173 16 (I 173 (Int32.toNatClampNeg p2))) 174 16 (I 174 (Int32.toNatClampNeg p2))) 175 16 (I 175 (Int32.toNatClampNeg p2))) 176 16 (I 176 (Int32.toNatClampNeg p2))) 177 16 (I 177 (Int32.toNatClampNeg p2))) 178 16 (I 178 (Int32.toNatClampNeg p2))) 179 16 (I 179 (Int32.toNatClampNeg p2))) 180 16 (I 180 (Int32.toNatClampNeg p2))) 180 (Int32.toNatClampNeg p2)) then (0 : Int32) else (if ((st_w (st_w (st_w (st_w (st_w (st_w (st_w (st_w (st_w I 166 10 (0 : Int32)) 173 16 (I 173 (Int32.toNatClampNeg p2))) 174 16 (I 174 (Int32.toNatClampNeg p2))) 175 16 (I 175 (Int32.toNatClampNeg p2))) 176 16 (I 176 (Int32.toNatClampNeg p2))) 177 16 (I 177 (Int32.toNatClampNeg p2))) 178 16 (I 178 (Int32.toNatClampNeg p2))) 179 16 (I 179 (Int32.toNatClampNeg p2))) 180 16 (I 180 (Int32.toNatClampNeg p2))) 180 (Int32.toNatClampNeg p2)) = (1 : Int32) then (1 : Int32) else (il (4 : Int32) (((st_w (st_w (st_w (st_w (st_w (st_w (st_w (st_w (st_w I 166 10 (0 : Int32)) 173 16 (I 173 (Int32.toNatClampNeg p2))) 174 16 (I 174 (Int32.toNatClampNeg p2))) 175 16 (I 175 (Int32.toNatClampNeg p2))) 176 16 (I 176 (Int32.toNatClampNeg p2))) 177 16 (I 177 (Int32.toNatClampNeg p2))) 178 16 (I 178 (Int32.toNatClampNeg p2))) 179 16 (I 179 (Int32.toNatClampNeg p2))) 180 16 (I 180 (Int32.toNatClampNeg p2))) 180 (Int32.toNatClampNeg p2)) - (1 : Int32)))))) * p3))))) 177 (Int32.toNatClampNeg p1) (if ((st_w (st_w (st_w (st_w (st_w (st_w (st_w (st_w (st_w I 166 10 (0 : Int32)) 173 16 (I 173 (Int32.toNatClampNeg p2))) 174 16 (I 174 (Int32.toNatClampNeg p2))) 175 16 (I 175 (Int32.toNatClampNeg p2))) 176 16 (I 176 (Int32.toNatClampNeg p2))) 177 16 (I 177 (Int32.toNatClampNeg p2))) 178 16 (I 178 (Int32.toNatClampNeg p2))) 179 16 (I 179 (Int32.toNatClampNeg p2))) 180 16 (I 180 (Int32.toNatClampNeg p2))) 180 (Int32.toNatClampNeg p2)) = (7 : Int32) then ((64 : Int32) * ((st_w (st_w (st_w (st_w (st_w (st_w (st_w (st_w (st_w (st_w (st_w (st_w (st_w (st_w (st_w (st_w (st_w (st_w (st_w (st_w I 166 10 (0 : Int32)) 173 16 (I 173 (Int32.toNatClampNeg p2))) 174 16 (I 174 (Int32.toNatClampNeg p2))) 175 16 (I 175 (Int32.toNatClampNeg p2))) 176 16 (I 176 (Int32.toNatClampNeg p2))) 177 16 (I 177 (Int32.toNatClampNeg p2))) 178 16 (I 178 (Int32.toNatClampNeg p2))) 179 16 (I 179 (Int32.toNatClampNeg p2))) 180 16 (I 180 (Int32.toNatClampNeg p2))) 181 16 (I 181 (Int32.toNatClampNeg p2))) 182 16 (I 182 (Int32.toNatClampNeg p2))) 173 (Int32.toNatClampNeg p1) (0 : Int32)) 174 (Int32.toNatClampNeg p1) (0 : Int32)) 175 (Int32.toNatClampNeg p1) (0 : Int32)) 176 (Int32.toNatClampNeg p1) (0 : Int32)) 177 (Int32.toNatClampNeg p1) (0 : Int32)) 178 (Int32.toNatClampNeg p1) (0 : Int32)) 179 (Int32.toNatClampNeg p1) (0 : Int32)) 180 (Int32.toNatClampNeg p1) (0 : Int32)) 181 (Int32.toNatClampNeg p1) (0 : Int32)) 181 16)) else (if ((st_w (st_w (st_w (st_w (st_w (st_w (st_w (st_w (st_w I 166 10 (0 : Int32)) 173 16 (I 173 (Int32.toNatClampNeg p2))) 174 16 (I 174 (Int32.toNatClampNeg p2))) 175 16 (I 175 (Int32.toNatClampNeg p2))) 176 16 (I 176 (Int32.toNatClampNeg p2))) 177 16 (I 177 (Int32.toNatClampNeg p2))) 178 16 (I 178 (Int32.toNatClampNeg p2))) 179 16 (I 179 (Int32.toNatClampNeg p2))) 180 16 (I 180 (Int32.toNatClampNeg p2))) 180 (Int32.toNatClampNeg p2)) = (0 : Int32) then (0 : Int32) else (if (5 : Int32) < ((st_w (st_w (st_w (st_w (st_w (st_w (st_w (st_w (st_w I 166 10 (0 : Int32)) 173 16 (I 173 (Int32.toNatClampNeg p2))) 174 16 (I 174 (Int32.toNatClampNeg p2))) 175 16 (I 175 (Int32.toNatClampNeg p2))) 176 16 (I 176 (Int32.toNatClampNeg p2))) 177 16 (I 177 (Int32.toNatClampNeg p2))) 178 16 (I 178 (Int32.toNatClampNeg p2))) 179 16 (I 179 (Int32.toNatClampNeg p2))) 180 16 (I 180 (Int32.toNatClampNeg p2))) 180 (Int32.toNatClampNeg p2)) then (0 : Int32) else (if ((st_w (st_w (st_w (st_w (st_w (st_w (st_w (st_w (st_w I 166 10 (0 : Int32)) 173 16 (I 173 (Int32.toNatClampNeg p2))) 174 16 (I 174 (Int32.toNatClampNeg p2))) 175 16 (I 175 (Int32.toNatClampNeg p2))) 176 16 (I 176 (Int32.toNatClampNeg p2))) 177 16 (I 177 (Int32.toNatClampNeg p2))) 178 16 (I 178 (Int32.toNatClampNeg p2))) 179 16 (I 179 (Int32.toNatClampNeg p2))) 180 16 (I 180 (Int32.toNatClampNeg p2))) 180 (Int32.toNatClampNeg p2)) = (1 : Int32) then (1 : Int32) else (il (4 : Int32) (((st_w (st_w (st_w (st_w (st_w (st_w (st_w (st_w (st_w I 166 10 (0 : Int32)) 173 16 (I 173 (Int32.toNatClampNeg p2))) 174 16 (I 174 (Int32.toNatClampNeg p2))) 175 16 (I 175 (Int32.toNatClampNeg p2))) 176 16 (I 176 (Int32.toNatClampNeg p2))) 177 16 (I 177 (Int32.toNatClampNeg p2))) 178 16 (I 178 (Int32.toNatClampNeg p2))) 179 16 (I 179 (Int32.toNatClampNeg p2))) 180 16 (I 180 (Int32.toNatClampNeg p2))) 180 (Int32.toNatClampNeg p2)) - (1 : Int32)))))))) 178 (Int32.toNatClampNeg p1) (if ((st_w (st_w (st_w (st_w (st_w (st_w (st_w (st_w (st_w I 166 10 (0 : Int32)) 173 16 (I 173 (Int32.toNatClampNeg p2))) 174 16 (I 174 (Int32.toNatClampNeg p2))) 175 16 (I 175 (Int32.toNatClampNeg p2))) 176 16 (I 176 (Int32.toNatClampNeg p2))) 177 16 (I 177 (Int32.toNatClampNeg p2))) 178 16 (I 178 (Int32.toNatClampNeg p2))) 179 16 (I 179 (Int32.toNatClampNeg p2))) 180 16 (I 180 (Int32.toNatClampNeg p2))) 180 (Int32.toNatClampNeg p2)) = (7 : Int32) then ((st_w (st_w (st_w (st_w (st_w (st_w (st_w (st_w (st_w (st_w (st_w (st_w (st_w (st_w (st_w (st_w (st_w (st_w (st_w (st_w (st_w I 166 10 (0 : Int32)) 173 16 (I 173 (Int32.toNatClampNeg p2))) 174 16 (I 174 (Int32.toNatClampNeg p2))) 175 16 (I 175 (Int32.toNatClampNeg p2))) 176 16 (I 176 (Int32.toNatClampNeg p2))) 177 16 (I 177 (Int32.toNatClampNeg p2))) 178 16 (I 178 (Int32.toNatClampNeg p2))) 179 16 (I 179 (Int32.toNatClampNeg p2))) 180 16 (I 180 (Int32.toNatClampNeg p2))) 181 16 (I 181 (Int32.toNatClampNeg p2))) 182 16 (I 182 (Int32.toNatClampNeg p2))) 173 (Int32.toNatClampNeg p1) (0 : Int32)) 174 (Int32.toNatClampNeg p1) (0 : Int32)) 175 (Int32.toNatClampNeg p1) (0 : Int32)) 176 (Int32.toNatClampNeg p1) (0 : Int32)) 177 (Int32.toNatClampNeg p1) (0 : Int32)) 178 (Int32.toNatClampNeg p1) (0 : Int32)) 179 (Int32.toNatClampNeg p1) (0 : Int32)) 180 (Int32.toNatClampNeg p1) (0 : Int32)) 181 (Int32.toNatClampNeg p1) (0 : Int32)) 182 (Int32.toNatClampNeg p1) (0 : Int32)) 182 16) else (bz (((st_w (st_w (st_w (st_w (st_w (st_w (st_w (st_w (st_w I 166 10 (0 : Int32)) 173 16 (I 173 (Int32.toNatClampNeg p2))) 174 16 (I 174 (Int32.toNatClampNeg p2))) 175 16 (I 175 (Int32.toNatClampNeg p2))) 176 16 (I 176 (Int32.toNatClampNeg p2))) 177 16 (I 177 (Int32.toNatClampNeg p2))) 178 16 (I 178 (Int32.toNatClampNeg p2))) 179 16 (I 179 (Int32.toNatClampNeg p2))) 180 16 (I 180 (Int32.toNatClampNeg p2))) 180 (Int32.toNatClampNeg p2)) = (6 : Int32)))))
def mbit (x : Int32) : Int32 := (if x = (0 : Int32) then (0 : Int32) else (if (5 : Int32) < x then (0 : Int32) else (if x = (1 : Int32) then (1 : Int32) else (il (4 : Int32) (x - (1 : Int32))))))
theorem mel_o (I : st_I) (p1 p2 p3 : Int32) {a f : Nat} (h1 : ¬ (a = 166 ∧ f = 10)) (h2 : ¬ (173 ≤ a ∧ a ≤ 182 ∧ (f = 16 ∨ f = p1.toNatClampNeg))) : mel I p1 p2 p3 a f = I a f := by
  unfold mel
  simp only [st_w_e]
  repeat rw [if_neg (by omega)]
theorem mel_173 (I : st_I) (p1 p2 p3 : Int32) (h : ¬ p1.toNatClampNeg = 16) : mel I p1 p2 p3 173 p1.toNatClampNeg = 1 := by
  unfold mel
  simp [st_w_e]
theorem mel_174 (I : st_I) (p1 p2 p3 : Int32) (h : ¬ p1.toNatClampNeg = 16) (g : ¬ p2.toNatClampNeg = 16) : mel I p1 p2 p3 174 p1.toNatClampNeg = I 174 p2.toNatClampNeg := by
  unfold mel
  have h' : ¬ 16 = p1.toNatClampNeg := fun z => h z.symm
  simp [st_w_e, h, h', g, mbit]
theorem mel_175 (I : st_I) (p1 p2 p3 : Int32) (h : ¬ p1.toNatClampNeg = 16) (g : ¬ p2.toNatClampNeg = 16) : mel I p1 p2 p3 175 p1.toNatClampNeg = I 175 p2.toNatClampNeg := by
  unfold mel
  have h' : ¬ 16 = p1.toNatClampNeg := fun z => h z.symm
  simp [st_w_e, h, h', g, mbit]
theorem mel_176 (I : st_I) (p1 p2 p3 : Int32) (h : ¬ p1.toNatClampNeg = 16) (g : ¬ p2.toNatClampNeg = 16) : mel I p1 p2 p3 176 p1.toNatClampNeg = (if I 180 p2.toNatClampNeg = 7 then I 176 p2.toNatClampNeg + 64 + 64 * (I 181 p2.toNatClampNeg + I 182 p2.toNatClampNeg) * p3 else if I 180 p2.toNatClampNeg = 6 then I 176 p2.toNatClampNeg + 64 * p3 else I 176 p2.toNatClampNeg + mbit (I 180 p2.toNatClampNeg) * p3) := by
  unfold mel
  have h' : ¬ 16 = p1.toNatClampNeg := fun z => h z.symm
  simp [st_w_e, h, h', g, mbit]
theorem mel_177 (I : st_I) (p1 p2 p3 : Int32) (h : ¬ p1.toNatClampNeg = 16) (g : ¬ p2.toNatClampNeg = 16) : mel I p1 p2 p3 177 p1.toNatClampNeg = (if I 180 p2.toNatClampNeg = 7 then 64 * I 181 p2.toNatClampNeg else mbit (I 180 p2.toNatClampNeg)) := by
  unfold mel
  have h' : ¬ 16 = p1.toNatClampNeg := fun z => h z.symm
  simp [st_w_e, h, h', g, mbit]
theorem mel_178 (I : st_I) (p1 p2 p3 : Int32) (h : ¬ p1.toNatClampNeg = 16) (g : ¬ p2.toNatClampNeg = 16) : mel I p1 p2 p3 178 p1.toNatClampNeg = (if I 180 p2.toNatClampNeg = 7 then I 182 p2.toNatClampNeg else bz (I 180 p2.toNatClampNeg = 6)) := by
  unfold mel
  have h' : ¬ 16 = p1.toNatClampNeg := fun z => h z.symm
  simp [st_w_e, h, h', g, mbit]
theorem mel_179 (I : st_I) (p1 p2 p3 : Int32) (h : ¬ p1.toNatClampNeg = 16) (g : ¬ p2.toNatClampNeg = 16) : mel I p1 p2 p3 179 p1.toNatClampNeg = 0 := by
  unfold mel
  have h' : ¬ 16 = p1.toNatClampNeg := fun z => h z.symm
  simp [st_w_e, h, h', g, mbit]
theorem mel_180 (I : st_I) (p1 p2 p3 : Int32) (h : ¬ p1.toNatClampNeg = 16) (g : ¬ p2.toNatClampNeg = 16) : mel I p1 p2 p3 180 p1.toNatClampNeg = 0 := by
  unfold mel
  have h' : ¬ 16 = p1.toNatClampNeg := fun z => h z.symm
  simp [st_w_e, h, h', g, mbit]
theorem mel_181 (I : st_I) (p1 p2 p3 : Int32) (h : ¬ p1.toNatClampNeg = 16) (g : ¬ p2.toNatClampNeg = 16) : mel I p1 p2 p3 181 p1.toNatClampNeg = 0 := by
  unfold mel
  have h' : ¬ 16 = p1.toNatClampNeg := fun z => h z.symm
  simp [st_w_e, h, h', g, mbit]
theorem mel_182 (I : st_I) (p1 p2 p3 : Int32) (h : ¬ p1.toNatClampNeg = 16) (g : ¬ p2.toNatClampNeg = 16) : mel I p1 p2 p3 182 p1.toNatClampNeg = 0 := by
  unfold mel
  have h' : ¬ 16 = p1.toNatClampNeg := fun z => h z.symm
  simp [st_w_e, h, h', g, mbit]
theorem mp_g (F g : Nat → Int32) (h3 : F 173 = g 173) (h4 : F 174 = g 174) (h5 : F 175 = g 175) (h6 : F 176 = g 176) (h7 : F 177 = g 177) (h8 : F 178 = g 178) (h9 : F 179 = g 179) (h0 : F 180 = g 180) (h1 : F 181 = g 181) (h2 : F 182 = g 182) : ∀ a, 173 ≤ a → a ≤ 182 → F a = g a := by
  intro a ha hb
  rcases (show a = 173 ∨ a = 174 ∨ a = 175 ∨ a = 176 ∨ a = 177 ∨ a = 178 ∨ a = 179 ∨ a = 180 ∨ a = 181 ∨ a = 182 by omega) with e | e | e | e | e | e | e | e | e | e <;> subst e <;> assumption
theorem oi_mu (a b : Nat) : Int32.ofNat a * Int32.ofNat b = Int32.ofNat (a * b) := by
  apply Int32.toBitVec_inj.mp
  show BitVec.ofNat 32 a * BitVec.ofNat 32 b = BitVec.ofNat 32 (a * b)
  rw [BitVec.ofNat_mul]
theorem sp_12 (K : st_I) (p : Nat) (a0 a1 a2 a3 b4 b5 b6 : Int32) : st_w (st_w (st_w (st_w (st_w (st_w (st_w (st_w (st_w (st_w (st_w (st_w K p 0 a0) p 2 a2) p 3 a3) p 1 a1) p 4 (0 : Int32)) p 5 (0 : Int32)) p 6 (0 : Int32)) p 7 (0 : Int32)) p 8 (0 : Int32)) p 5 b5) p 6 b6) p 4 b4 = st_sq K p (g9 a0 a1 a2 a3 b4 b5 b6 0 0) := by
  rw [sp_11]
  funext i f
  rw [st_w_e]
  unfold st_sq
  by_cases h : i = p ∧ f = 4
  · rw [if_pos h, if_pos (by omega), h.2]
    rfl
  · rw [if_neg h]
    by_cases h9 : i = p ∧ f < 9
    · rw [if_pos h9, if_pos h9]
      match f, h9.2 with
      | 0, _ => rfl
      | 1, _ => rfl
      | 2, _ => rfl
      | 3, _ => rfl
      | 4, _ => exact absurd ⟨h9.1, rfl⟩ h
      | 5, _ => rfl
      | 6, _ => rfl
      | 7, _ => rfl
      | 8, _ => rfl
      | f + 9, h => exact absurd h (by omega)
    · rw [if_neg h9, if_neg h9]
theorem oi_rm {a : Nat} (ha : a < 2147483648) : irm (Int32.ofNat a) 64 = Int32.ofNat (a % 64) := by
  refine eq_of ?_
  have e : (64 : Int32).toInt = 64 := rfl
  rw [irm_ (by rw [oi_i (by omega)]; omega) (by rw [e]; omega), oi_i (by omega), e]
  omega
theorem sq_o (M : st_I) (c : Nat) (g : Nat → Int32) {a f : Nat} (q : ¬ (a = c ∧ f < 9)) : st_sq M c g a f = M a f := if_neg q
set_option maxRecDepth 20000 in
theorem s_element {X : pm_X} {d : Nat} {I : st_I} {J : st_J} {p1 p2 p3 : Int32} (h : RR I J) : StpI X (d + 5) 60 [.ref 0, .int p1, .int p2, .int p3, .ref 187] 194 [.ref 166, .int p1, .int p2, .int p3] I J := by
  have hw := h.1.1
  by_cases c : (0 ≤ p1.toInt ∧ p1.toInt ≤ 15) ∧ (0 ≤ p2.toInt ∧ p2.toInt ≤ 15)
  · obtain ⟨k1, k2, k3⟩ := c16_i c.1.1 c.1.2
    obtain ⟨m1, m2, m3⟩ := c16_i c.2.1 c.2.2
    have hC : ¬ ((¬ ((¬ (p1 < (0 : Int32))) ∧ (p1 < (16 : Int32)))) ∨ (¬ ((¬ (p2 < (0 : Int32))) ∧ (p2 < (16 : Int32))))) := by
      rw [cI_c, cI_c]
      omega
    have hM : ¬ ((¬ ((¬ ((Int32.toInt64 p1) < (0 : Int64))) ∧ (¬ ((15 : Int64) < (Int32.toInt64 p1))))) ∨ (¬ ((¬ ((Int32.toInt64 p2) < (0 : Int64))) ∧ (¬ ((15 : Int64) < (Int32.toInt64 p2)))))) := by
      rw [cI_m, cI_m]
      omega
    obtain ⟨⟨kd, dp, sg, pl, sh, db, pt, ct, cd⟩, hs9, hm9, hvk⟩ := h.2.2.2 p2.toNatClampNeg m1
    have g0 : I (150 + p2.toNatClampNeg) 0 = Int32.ofNat kd := hs9 0 (by omega)
    have g1 : I (150 + p2.toNatClampNeg) 1 = Int32.ofNat dp := hs9 1 (by omega)
    have g2 : I (150 + p2.toNatClampNeg) 2 = Int32.ofNat sg := hs9 2 (by omega)
    have g3 : I (150 + p2.toNatClampNeg) 3 = Int32.ofNat pl := hs9 3 (by omega)
    have g5 : I (150 + p2.toNatClampNeg) 5 = Int32.ofNat db := hs9 5 (by omega)
    have g6 : I (150 + p2.toNatClampNeg) 6 = Int32.ofNat pt := hs9 6 (by omega)
    have g7 : I (150 + p2.toNatClampNeg) 7 = Int32.ofNat ct := hs9 7 (by omega)
    have g8 : I (150 + p2.toNatClampNeg) 8 = Int32.ofNat cd := hs9 8 (by omega)
    have q173 : I 173 p2.toNatClampNeg = Int32.ofNat kd := hm9 173 (by omega) (by omega)
    have q174 : I 174 p2.toNatClampNeg = Int32.ofNat dp := hm9 174 (by omega) (by omega)
    have q175 : I 175 p2.toNatClampNeg = Int32.ofNat sg := hm9 175 (by omega) (by omega)
    have q176 : I 176 p2.toNatClampNeg = Int32.ofNat (64 * pl + sh) := hm9 176 (by omega) (by omega)
    have q179 : I 179 p2.toNatClampNeg = Int32.ofNat ct := hm9 179 (by omega) (by omega)
    have q180 : I 180 p2.toNatClampNeg = Int32.ofNat cd := hm9 180 (by omega) (by omega)
    have q181 : I 181 p2.toNatClampNeg = if kd = 2 ∧ cd = 7 then Int32.ofNat (db / 64) else 0 := hm9 181 (by omega) (by omega)
    have q182 : I 182 p2.toNatClampNeg = if kd = 2 ∧ cd = 7 then Int32.ofNat pt else 0 := hm9 182 (by omega) (by omega)
    have hUs := hw.2.1 sg hvk.2.1
    have hUn := un_i hUs.1
    obtain ⟨w0, w1, w2, w3, w4, w5, w6, w7, w8⟩ := vk_b hvk (by omega)
    have hcase := hvk.2.2.2.2
    have kk2 : (Int32.ofNat kd = 2) ↔ kd = 2 := oi_eq (b := 2) (by omega) (by omega)
    have c1 : (Int32.ofNat cd = 1) ↔ cd = 1 := oi_eq (b := 1) (by omega) (by omega)
    have c6 : (Int32.ofNat cd = 6) ↔ cd = 6 := oi_eq (b := 6) (by omega) (by omega)
    have c7 : (Int32.ofNat cd = 7) ↔ cd = 7 := oi_eq (b := 7) (by omega) (by omega)
    by_cases d1 : kd = 2
    · by_cases d2 : 0 ≤ p3.toInt ∧ p3.toInt < ct
      · have hn := cln d2.1
        have ep := oi_of d2.1
        have C2 : ¬ ((p3 < (0 : Int32)) ∨ (¬ (p3 < Int32.ofNat ct))) := by
          rw [i32_lt, i32_lt, i0, oi_i (by omega)]
          omega
        have M2 : (¬ ((Int32.toInt64 p3) < (0 : Int64))) ∧ (¬ ((Int32.toInt64 (Int32.ofNat ct - (1 : Int32))) < (Int32.toInt64 p3))) := by
          rw [i64_lt, i64_lt, tl, tl, j0, s_1 (by rw [oi_i (by omega)]; omega) (by rw [oi_i (by omega)]; omega), oi_i (by omega)]
          omega
        by_cases d3 : cd = 1
        · refine ⟨I, J, 3, 1, 6, iv_L_element _ ?_, by omega, by omega, st_w (st_w I 166 10 0) 166 10 3, J, 0, (ev_M_element (d := d + 2) _).mpr ?_, e_o _ _ _, fun h => absurd h (by decide), RR_ee h (fun _ _ _ => rfl)⟩
          · rw [if_neg hC]
            refine ⟨m2, ?_⟩
            rw [g0, if_pos (kk2.mpr d1), g7, if_neg C2, g8, if_pos (c1.mpr d3)]
          · rw [if_neg hM]
            refine ⟨m3, ?_⟩
            rw [q173, if_pos (kk2.mpr d1), q179, if_pos M2, q180, if_pos (c1.mpr d3)]
        · -- the element's first bit
          obtain ⟨B, hB⟩ : ∃ B, B = (if cd = 7 then pl + 1 else pl) * 64 + p3.toNatClampNeg * (db + pt * 64) := ⟨_, rfl⟩
          have hbe : ((if Int32.ofNat cd = 7 then Int32.ofNat pl + 1 else Int32.ofNat pl) * 64) + (p3 * (Int32.ofNat db + (Int32.ofNat pt * 64))) = Int32.ofNat B := by
            have e1 : (if Int32.ofNat cd = 7 then Int32.ofNat pl + 1 else Int32.ofNat pl) = Int32.ofNat (if cd = 7 then pl + 1 else pl) := by
              by_cases q : cd = 7
              · rw [if_pos (c7.mpr q), if_pos q, oi_a]
              · rw [if_neg (fun z => q (c7.mp z)), if_neg q]
            rw [e1, show (64 : Int32) = Int32.ofNat 64 from rfl, oi_mu, oi_mu, oi_p]
            conv => lhs; rw [ep]
            rw [oi_mu, oi_p, hB]
          have hmul : p3.toNatClampNeg * (db + pt * 64) + (db + pt * 64) ≤ ct * (db + pt * 64) := by
            rw [← Nat.succ_mul]
            exact Nat.mul_le_mul_right _ (by omega)
          have hfit : B + db + 64 * pt ≤ 64 * un (I 7) sg ∧ (pt = 0 ∨ (B % 64 = 0 ∧ db % 64 = 0)) := by
            rcases hcase with q | q | q
            · omega
            · omega
            · obtain ⟨q1, q2, q3, q | q | q⟩ := q
              · obtain ⟨r1, r2, r3, r4⟩ := q
                subst r3
                rw [Nat.zero_mul, Nat.add_zero] at hmul hB
                rw [if_neg (by omega)] at hB
                generalize p3.toNatClampNeg * db = y at *
                generalize ct * db = y2 at *
                omega
              · obtain ⟨r1, r2, r3, r4⟩ := q
                subst r2 r3
                rw [if_neg (by omega)] at hB
                omega
              · obtain ⟨r1, r2, r3, r4, r5⟩ := q
                rw [if_pos r1] at hB
                rw [show db + 64 * pt = db + pt * 64 by omega] at r3
                have e : p3.toNatClampNeg * (db + pt * 64) = 64 * (p3.toNatClampNeg * (db / 64 + pt)) := by
                  rw [show db + pt * 64 = 64 * (db / 64 + pt) by omega, Nat.mul_left_comm]
                generalize p3.toNatClampNeg * (db + pt * 64) = y at *
                generalize ct * (db + pt * 64) = y2 at *
                generalize p3.toNatClampNeg * (db / 64 + pt) = y3 at *
                omega
          have n16 : ¬ p1.toNatClampNeg = 16 := by omega
          have n16' : ¬ p2.toNatClampNeg = 16 := by omega
          have o_m : ∀ (K : st_I) (g : Nat → Int32) {a f : Nat}, ¬ (150 ≤ a ∧ a ≤ 165) → st_sq K (150 + p1.toNatClampNeg) g a f = K a f := fun K g {a f} q => sq_o _ _ _ (by omega)
          refine ⟨st_sq I (150 + p1.toNatClampNeg) (sp9 (1, dp, sg, B / 64, B % 64, db, pt, 0, 0)), st_y J 187 0 (Int32.toInt64 1), 0, 0, 0, iv_L_element _ ?_, by omega, by omega, mel (st_sq I (150 + p1.toNatClampNeg) (sp9 (1, dp, sg, B / 64, B % 64, db, pt, 0, 0))) p1 p2 p3, st_y J 187 0 (Int32.toInt64 1), 1, (ev_M_element (d := d + 2) _).mpr ?_, ?_, fun _ => y_o _ _, ?_⟩
          · rw [if_neg hC]
            refine ⟨m2, ?_⟩
            rw [g0, if_pos (kk2.mpr d1), g7, if_neg C2, g8, if_neg (fun z => d3 (c1.mp z)), g1, g2, g3, g5, g6, hbe, sp_12, oi_d (by omega), oi_rm (by omega)]
            exact ⟨k2, rfl⟩
          · rw [if_neg hM]
            refine ⟨m3, ?_⟩
            have e173 : (st_sq I (150 + p1.toNatClampNeg) (sp9 (1, dp, sg, B / 64, B % 64, db, pt, 0, 0))) 173 p2.toNatClampNeg = 2 := by
              rw [o_m _ _ (by omega), q173]
              exact kk2.mpr d1
            have e179 : (¬ ((Int32.toInt64 p3) < (0 : Int64))) ∧ (¬ ((Int32.toInt64 ((st_sq I (150 + p1.toNatClampNeg) (sp9 (1, dp, sg, B / 64, B % 64, db, pt, 0, 0))) 179 p2.toNatClampNeg - (1 : Int32))) < (Int32.toInt64 p3))) := by
              rw [o_m _ _ (by omega), q179]
              exact M2
            have e180 : ¬ (st_sq I (150 + p1.toNatClampNeg) (sp9 (1, dp, sg, B / 64, B % 64, db, pt, 0, 0))) 180 p2.toNatClampNeg = 1 := by
              rw [o_m _ _ (by omega), q180]
              exact fun z => d3 (c1.mp z)
            rw [if_pos e173, if_pos e179, if_neg e180]
            exact ⟨k3, rfl⟩
          · unfold mel
            simp [st_w_e]
          · have mb := bit_c (c := cd) (by omega) (Int32.ofNat cd) (oi_i (by omega))
            have mb' : mbit (Int32.ofNat cd) = Int32.ofNat (if cd ≤ 5 then ebn cd else 0) := mb
            have hdb : cd ≠ 7 → (if cd ≤ 5 then ebn cd else 0) = db := fun hne => by
              rcases hcase with q | q | q
              · omega
              · omega
              · obtain ⟨q1, q2, q3, q | q | q⟩ := q
                · rw [if_pos q.1, q.2.1]
                · rw [if_neg (by omega), q.2.1]
                · omega
            refine RR_set h k1 (v := (1, dp, sg, B / 64, B % 64, db, pt, 0, 0)) (x := I 8 0) (fun a f hr q1 q2 q3 q4 => ?_) (fun f hf => ?_) ?_ ⟨w1, w2, by omega, by omega, Or.inr (Or.inl ⟨rfl, rfl, rfl, by omega, by omega⟩)⟩ ?_ ?_ hw.2.2 (rJ_o _ _)
            · unfold rI at hr
              rw [mel_o _ _ _ _ (by omega) (by omega), sq_o _ _ _ (by omega)]
            · rw [mel_o _ _ _ _ (by omega) (by omega)]
              exact if_pos ⟨rfl, hf⟩
            · refine mp_g (fun x => mel (st_sq I (150 + p1.toNatClampNeg) (sp9 (1, dp, sg, B / 64, B % 64, db, pt, 0, 0))) p1 p2 p3 x p1.toNatClampNeg) (mc9 (1, dp, sg, B / 64, B % 64, db, pt, 0, 0)) ?_ ?_ ?_ ?_ ?_ ?_ ?_ ?_ ?_ ?_
              · exact mel_173 _ _ _ _ n16
              · show mel _ p1 p2 p3 _ _ = _
                rw [mel_174 _ _ _ _ n16 n16', o_m _ _ (by omega), q174]; rfl
              · show mel _ p1 p2 p3 _ _ = _
                rw [mel_175 _ _ _ _ n16 n16', o_m _ _ (by omega), q175]; rfl
              · show mel _ p1 p2 p3 _ _ = _
                rw [mel_176 _ _ _ _ n16 n16', o_m _ _ (a := 180) (by omega), o_m _ _ (a := 176) (by omega), o_m _ _ (a := 181) (by omega), o_m _ _ (a := 182) (by omega), q180, q176, q181, q182, mb']
                show _ = Int32.ofNat (64 * (B / 64) + B % 64)
                rw [show 64 * (B / 64) + B % 64 = B by omega]
                have hsh : sh = 0 := by omega
                by_cases z7 : cd = 7
                · rw [if_pos (c7.mpr z7), if_pos ⟨d1, z7⟩, if_pos ⟨d1, z7⟩]
                  conv => lhs; rw [ep]
                  rw [show (64 : Int32) = Int32.ofNat 64 from rfl, oi_p, oi_p, oi_mu, oi_mu, oi_p, hB, if_pos z7]
                  have hd64 : db % 64 = 0 := by omega
                  have e : p3.toNatClampNeg * (db + pt * 64) = 64 * (db / 64 + pt) * p3.toNatClampNeg := by
                    rw [show db + pt * 64 = 64 * (db / 64 + pt) by omega, Nat.mul_comm]
                  rw [e]
                  congr 1
                  omega
                · rw [if_neg (fun z => z7 (c7.mp z))]
                  by_cases z6 : cd = 6
                  · have hz : db = 0 ∧ pt = 1 := by omega
                    rw [if_pos (c6.mpr z6)]
                    conv => lhs; rw [ep]
                    rw [show (64 : Int32) = Int32.ofNat 64 from rfl, oi_mu, oi_p, hB, if_neg z7, hz.1, hz.2]
                    congr 1
                    omega
                  · have hz : pt = 0 := by omega
                    rw [if_neg (fun z => z6 (c6.mp z)), hdb z7]
                    conv => lhs; rw [ep]
                    rw [oi_mu, oi_p, hB, if_neg z7, hz, Nat.zero_mul, Nat.add_zero, Nat.mul_comm db, hsh]
                    congr 1
                    omega
              · show mel _ p1 p2 p3 _ _ = _
                rw [mel_177 _ _ _ _ n16 n16', o_m _ _ (a := 180) (by omega), o_m _ _ (a := 181) (by omega), q180, q181, mb']
                show _ = Int32.ofNat db
                by_cases z7 : cd = 7
                · rw [if_pos (c7.mpr z7), if_pos ⟨d1, z7⟩, show (64 : Int32) = Int32.ofNat 64 from rfl, oi_mu]
                  congr 1
                  omega
                · rw [if_neg (fun z => z7 (c7.mp z)), hdb z7]
              · show mel _ p1 p2 p3 _ _ = _
                rw [mel_178 _ _ _ _ n16 n16', o_m _ _ (a := 180) (by omega), o_m _ _ (a := 182) (by omega), q180, q182]
                show _ = Int32.ofNat pt
                by_cases z7 : cd = 7
                · rw [if_pos (c7.mpr z7), if_pos ⟨d1, z7⟩]
                · rw [if_neg (fun z => z7 (c7.mp z))]
                  by_cases z6 : cd = 6
                  · rw [bz_t (c6.mpr z6), show pt = 1 by omega]; rfl
                  · rw [bz_f (fun z => z6 (c6.mp z)), show pt = 0 by omega]; rfl
              · exact mel_179 _ _ _ _ n16 n16'
              · exact mel_180 _ _ _ _ n16 n16'
              · exact mel_181 _ _ _ _ n16 n16'
              · exact mel_182 _ _ _ _ n16 n16'
            · rw [mel_o _ _ _ _ (by omega) (by omega), o_m _ _ (by omega)]
            · rw [mel_o _ _ _ _ (by omega) (by omega), o_m _ _ (by omega)]
              exact h.1.2.2.2.1
      · refine ⟨I, J, 1, 1, 6, iv_L_element _ ?_, by omega, by omega, st_w (st_w I 166 10 0) 166 10 1, J, 0, (ev_M_element (d := d + 2) _).mpr ?_, e_o _ _ _, fun h => absurd h (by decide), RR_ee h (fun _ _ _ => rfl)⟩
        · rw [if_neg hC]
          refine ⟨m2, ?_⟩
          rw [g0, if_pos (kk2.mpr d1), g7, if_pos (by rw [i32_lt, i32_lt, i0, oi_i (by omega)]; omega)]
        · rw [if_neg hM]
          refine ⟨m3, ?_⟩
          rw [q173, if_pos (kk2.mpr d1), q179, if_neg (by rw [i64_lt, i64_lt, tl, tl, j0, s_1 (by rw [oi_i (by omega)]; omega) (by rw [oi_i (by omega)]; omega), oi_i (by omega)]; omega)]
    · refine ⟨I, J, 2, 1, 6, iv_L_element _ ?_, by omega, by omega, st_w (st_w I 166 10 0) 166 10 2, J, 0, (ev_M_element (d := d + 2) _).mpr ?_, e_o _ _ _, fun h => absurd h (by decide), RR_ee h (fun _ _ _ => rfl)⟩
      · rw [if_neg hC]
        refine ⟨m2, ?_⟩
        rw [g0, if_neg (fun z => d1 (kk2.mp z))]
      · rw [if_neg hM]
        refine ⟨m3, ?_⟩
        rw [q173, if_neg (fun z => d1 (kk2.mp z))]
  · refine ⟨I, J, 1, 1, 6, iv_L_element _ ?_, by omega, by omega, st_w (st_w I 166 10 0) 166 10 1, J, 0, (ev_M_element (d := d + 2) _).mpr ?_, e_o _ _ _, fun h => absurd h (by decide), RR_ee h (fun _ _ _ => rfl)⟩
    · rw [if_pos (by rw [cI_c, cI_c]; omega)]
    · rw [if_pos (by rw [cI_m, cI_m]; omega)]
