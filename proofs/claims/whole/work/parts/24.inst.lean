theorem rc_11_0 (b : Nat) (w : WD) {X : Type} (o : Option X) : rc [11] (mk b w) (b + 0) o = o := rc_mk (by decide +kernel) b w o
theorem gR_11_0_0 (b : Nat) (w : WD) : gR [11] 0 (mk b w) (b + 0) = some (b + 1) := gR_mk 1 (by decide +kernel) b w
theorem gR_11_0_1 (b : Nat) (w : WD) : gR [11] 1 (mk b w) (b + 0) = some (b + 3) := gR_mk 3 (by decide +kernel) b w
theorem gR_11_0_2 (b : Nat) (w : WD) : gR [11] 2 (mk b w) (b + 0) = some (b + 5) := gR_mk 5 (by decide +kernel) b w
theorem gR_11_0_3 (b : Nat) (w : WD) : gR [11] 3 (mk b w) (b + 0) = some (b + 15) := gR_mk 15 (by decide +kernel) b w
theorem gR_11_0_4 (b : Nat) (w : WD) : gR [11] 4 (mk b w) (b + 0) = some (b + 25) := gR_mk 25 (by decide +kernel) b w
theorem gR_11_0_5 (b : Nat) (w : WD) : gR [11] 5 (mk b w) (b + 0) = some (b + 30) := gR_mk 30 (by decide +kernel) b w
theorem gR_11_0_6 (b : Nat) (w : WD) : gR [11] 6 (mk b w) (b + 0) = some (b + 31) := gR_mk 31 (by decide +kernel) b w
theorem gR_11_0_7 (b : Nat) (w : WD) : gR [11] 7 (mk b w) (b + 0) = some (b + 32) := gR_mk 32 (by decide +kernel) b w
theorem gR_11_0_8 (b : Nat) (w : WD) : gR [11] 8 (mk b w) (b + 0) = some (b + 33) := gR_mk 33 (by decide +kernel) b w
theorem gR_11_0_9 (b : Nat) (w : WD) : gR [11] 9 (mk b w) (b + 0) = some (b + 34) := gR_mk 34 (by decide +kernel) b w
theorem gR_11_0_10 (b : Nat) (w : WD) : gR [11] 10 (mk b w) (b + 0) = some (b + 51) := gR_mk 51 (by decide +kernel) b w
theorem gR_11_0_11 (b : Nat) (w : WD) : gR [11] 11 (mk b w) (b + 0) = some (b + 64) := gR_mk 64 (by decide +kernel) b w
theorem gR_11_0_12 (b : Nat) (w : WD) : gR [11] 12 (mk b w) (b + 0) = some (b + 68) := gR_mk 68 (by decide +kernel) b w
theorem gR_11_0_13 (b : Nat) (w : WD) : gR [11] 13 (mk b w) (b + 0) = some (b + 69) := gR_mk 69 (by decide +kernel) b w
theorem gI_11_0_14 (b : Nat) (w : WD) : gI [11] 14 (mk b w) (b + 0) = some (w.1 0 14) := gI_mk (by decide +kernel) b w
theorem sI_11_0_14 (b : Nat) (w : WD) (v : Int32) : sI [11] 14 (mk b w) (b + 0) v = some (mk b (uI w 0 14 v)) := sI_mk (by decide +kernel) b w v
theorem rc_8_1 (b : Nat) (w : WD) {X : Type} (o : Option X) : rc [8] (mk b w) (b + 1) o = o := rc_mk (by decide +kernel) b w o
theorem gR_8_1_0 (b : Nat) (w : WD) : gR [8] 0 (mk b w) (b + 1) = some (b + 2) := gR_mk 2 (by decide +kernel) b w
theorem gI_8_1_1 (b : Nat) (w : WD) : gI [8] 1 (mk b w) (b + 1) = some (w.1 1 1) := gI_mk (by decide +kernel) b w
theorem sI_8_1_1 (b : Nat) (w : WD) (v : Int32) : sI [8] 1 (mk b w) (b + 1) v = some (mk b (uI w 1 1 v)) := sI_mk (by decide +kernel) b w v
theorem rc_1_3 (b : Nat) (w : WD) {X : Type} (o : Option X) : rc [1] (mk b w) (b + 3) o = o := rc_mk (by decide +kernel) b w o
theorem gR_1_3_0 (b : Nat) (w : WD) : gR [1] 0 (mk b w) (b + 3) = some (b + 1) := gR_mk 1 (by decide +kernel) b w
theorem gI_1_3_1 (b : Nat) (w : WD) : gI [1] 1 (mk b w) (b + 3) = some (w.1 3 1) := gI_mk (by decide +kernel) b w
theorem sI_1_3_1 (b : Nat) (w : WD) (v : Int32) : sI [1] 1 (mk b w) (b + 3) v = some (mk b (uI w 3 1 v)) := sI_mk (by decide +kernel) b w v
theorem gI_1_3_2 (b : Nat) (w : WD) : gI [1] 2 (mk b w) (b + 3) = some (w.1 3 2) := gI_mk (by decide +kernel) b w
theorem sI_1_3_2 (b : Nat) (w : WD) (v : Int32) : sI [1] 2 (mk b w) (b + 3) v = some (mk b (uI w 3 2 v)) := sI_mk (by decide +kernel) b w v
theorem gI_1_3_3 (b : Nat) (w : WD) : gI [1] 3 (mk b w) (b + 3) = some (w.1 3 3) := gI_mk (by decide +kernel) b w
theorem sI_1_3_3 (b : Nat) (w : WD) (v : Int32) : sI [1] 3 (mk b w) (b + 3) v = some (mk b (uI w 3 3 v)) := sI_mk (by decide +kernel) b w v
theorem gR_1_3_4 (b : Nat) (w : WD) : gR [1] 4 (mk b w) (b + 3) = some (b + 4) := gR_mk 4 (by decide +kernel) b w
theorem gI_1_3_5 (b : Nat) (w : WD) : gI [1] 5 (mk b w) (b + 3) = some (w.1 3 5) := gI_mk (by decide +kernel) b w
theorem sI_1_3_5 (b : Nat) (w : WD) (v : Int32) : sI [1] 5 (mk b w) (b + 3) v = some (mk b (uI w 3 5 v)) := sI_mk (by decide +kernel) b w v
theorem rc_1_2_3 (b : Nat) (w : WD) {X : Type} (o : Option X) : rc [1, 2] (mk b w) (b + 3) o = o := rc_mk (by decide +kernel) b w o
theorem gR_1_2_3_0 (b : Nat) (w : WD) : gR [1, 2] 0 (mk b w) (b + 3) = some (b + 1) := gR_mk 1 (by decide +kernel) b w
theorem gI_1_2_3_1 (b : Nat) (w : WD) : gI [1, 2] 1 (mk b w) (b + 3) = some (w.1 3 1) := gI_mk (by decide +kernel) b w
theorem sI_1_2_3_1 (b : Nat) (w : WD) (v : Int32) : sI [1, 2] 1 (mk b w) (b + 3) v = some (mk b (uI w 3 1 v)) := sI_mk (by decide +kernel) b w v
theorem gI_1_2_3_2 (b : Nat) (w : WD) : gI [1, 2] 2 (mk b w) (b + 3) = some (w.1 3 2) := gI_mk (by decide +kernel) b w
theorem sI_1_2_3_2 (b : Nat) (w : WD) (v : Int32) : sI [1, 2] 2 (mk b w) (b + 3) v = some (mk b (uI w 3 2 v)) := sI_mk (by decide +kernel) b w v
theorem gI_1_2_3_3 (b : Nat) (w : WD) : gI [1, 2] 3 (mk b w) (b + 3) = some (w.1 3 3) := gI_mk (by decide +kernel) b w
theorem sI_1_2_3_3 (b : Nat) (w : WD) (v : Int32) : sI [1, 2] 3 (mk b w) (b + 3) v = some (mk b (uI w 3 3 v)) := sI_mk (by decide +kernel) b w v
theorem gR_1_2_3_4 (b : Nat) (w : WD) : gR [1, 2] 4 (mk b w) (b + 3) = some (b + 4) := gR_mk 4 (by decide +kernel) b w
theorem gI_1_2_3_5 (b : Nat) (w : WD) : gI [1, 2] 5 (mk b w) (b + 3) = some (w.1 3 5) := gI_mk (by decide +kernel) b w
theorem sI_1_2_3_5 (b : Nat) (w : WD) (v : Int32) : sI [1, 2] 5 (mk b w) (b + 3) v = some (mk b (uI w 3 5 v)) := sI_mk (by decide +kernel) b w v
theorem rc_0_5 (b : Nat) (w : WD) {X : Type} (o : Option X) : rc [0] (mk b w) (b + 5) o = o := rc_mk (by decide +kernel) b w o
theorem gR_0_5_0 (b : Nat) (w : WD) : gR [0] 0 (mk b w) (b + 5) = some (b + 6) := gR_mk 6 (by decide +kernel) b w
theorem gI_0_5_1 (b : Nat) (w : WD) : gI [0] 1 (mk b w) (b + 5) = some (w.1 5 1) := gI_mk (by decide +kernel) b w
theorem sI_0_5_1 (b : Nat) (w : WD) (v : Int32) : sI [0] 1 (mk b w) (b + 5) v = some (mk b (uI w 5 1 v)) := sI_mk (by decide +kernel) b w v
theorem rc_0_15 (b : Nat) (w : WD) {X : Type} (o : Option X) : rc [0] (mk b w) (b + 15) o = o := rc_mk (by decide +kernel) b w o
theorem gR_0_15_0 (b : Nat) (w : WD) : gR [0] 0 (mk b w) (b + 15) = some (b + 16) := gR_mk 16 (by decide +kernel) b w
theorem gI_0_15_1 (b : Nat) (w : WD) : gI [0] 1 (mk b w) (b + 15) = some (w.1 15 1) := gI_mk (by decide +kernel) b w
theorem sI_0_15_1 (b : Nat) (w : WD) (v : Int32) : sI [0] 1 (mk b w) (b + 15) v = some (mk b (uI w 15 1 v)) := sI_mk (by decide +kernel) b w v
theorem rc_3_25 (b : Nat) (w : WD) {X : Type} (o : Option X) : rc [3] (mk b w) (b + 25) o = o := rc_mk (by decide +kernel) b w o
theorem gR_3_25_0 (b : Nat) (w : WD) : gR [3] 0 (mk b w) (b + 25) = some (b + 26) := gR_mk 26 (by decide +kernel) b w
theorem gR_3_25_1 (b : Nat) (w : WD) : gR [3] 1 (mk b w) (b + 25) = some (b + 27) := gR_mk 27 (by decide +kernel) b w
theorem gR_3_25_2 (b : Nat) (w : WD) : gR [3] 2 (mk b w) (b + 25) = some (b + 28) := gR_mk 28 (by decide +kernel) b w
theorem gR_3_25_3 (b : Nat) (w : WD) : gR [3] 3 (mk b w) (b + 25) = some (b + 29) := gR_mk 29 (by decide +kernel) b w
theorem rc_5_34 (b : Nat) (w : WD) {X : Type} (o : Option X) : rc [5] (mk b w) (b + 34) o = o := rc_mk (by decide +kernel) b w o
theorem gI_5_34_1 (b : Nat) (w : WD) : gI [5] 1 (mk b w) (b + 34) = some (w.1 34 1) := gI_mk (by decide +kernel) b w
theorem sI_5_34_1 (b : Nat) (w : WD) (v : Int32) : sI [5] 1 (mk b w) (b + 34) v = some (mk b (uI w 34 1 v)) := sI_mk (by decide +kernel) b w v
theorem gI_5_34_2 (b : Nat) (w : WD) : gI [5] 2 (mk b w) (b + 34) = some (w.1 34 2) := gI_mk (by decide +kernel) b w
theorem sI_5_34_2 (b : Nat) (w : WD) (v : Int32) : sI [5] 2 (mk b w) (b + 34) v = some (mk b (uI w 34 2 v)) := sI_mk (by decide +kernel) b w v
theorem gI_5_34_3 (b : Nat) (w : WD) : gI [5] 3 (mk b w) (b + 34) = some (w.1 34 3) := gI_mk (by decide +kernel) b w
theorem sI_5_34_3 (b : Nat) (w : WD) (v : Int32) : sI [5] 3 (mk b w) (b + 34) v = some (mk b (uI w 34 3 v)) := sI_mk (by decide +kernel) b w v
theorem gI_5_34_4 (b : Nat) (w : WD) : gI [5] 4 (mk b w) (b + 34) = some (w.1 34 4) := gI_mk (by decide +kernel) b w
theorem sI_5_34_4 (b : Nat) (w : WD) (v : Int32) : sI [5] 4 (mk b w) (b + 34) v = some (mk b (uI w 34 4 v)) := sI_mk (by decide +kernel) b w v
theorem gI_5_34_5 (b : Nat) (w : WD) : gI [5] 5 (mk b w) (b + 34) = some (w.1 34 5) := gI_mk (by decide +kernel) b w
theorem sI_5_34_5 (b : Nat) (w : WD) (v : Int32) : sI [5] 5 (mk b w) (b + 34) v = some (mk b (uI w 34 5 v)) := sI_mk (by decide +kernel) b w v
theorem gI_5_34_6 (b : Nat) (w : WD) : gI [5] 6 (mk b w) (b + 34) = some (w.1 34 6) := gI_mk (by decide +kernel) b w
theorem sI_5_34_6 (b : Nat) (w : WD) (v : Int32) : sI [5] 6 (mk b w) (b + 34) v = some (mk b (uI w 34 6 v)) := sI_mk (by decide +kernel) b w v
theorem gR_5_34_7 (b : Nat) (w : WD) : gR [5] 7 (mk b w) (b + 34) = some (b + 42) := gR_mk 42 (by decide +kernel) b w
theorem gR_5_34_8 (b : Nat) (w : WD) : gR [5] 8 (mk b w) (b + 34) = some (b + 43) := gR_mk 43 (by decide +kernel) b w
theorem gR_5_34_9 (b : Nat) (w : WD) : gR [5] 9 (mk b w) (b + 34) = some (b + 5) := gR_mk 5 (by decide +kernel) b w
theorem gR_5_34_10 (b : Nat) (w : WD) : gR [5] 10 (mk b w) (b + 34) = some (b + 30) := gR_mk 30 (by decide +kernel) b w
theorem gR_5_34_11 (b : Nat) (w : WD) : gR [5] 11 (mk b w) (b + 34) = some (b + 25) := gR_mk 25 (by decide +kernel) b w
theorem gR_5_34_12 (b : Nat) (w : WD) : gR [5] 12 (mk b w) (b + 34) = some (b + 44) := gR_mk 44 (by decide +kernel) b w
theorem rc_10_51 (b : Nat) (w : WD) {X : Type} (o : Option X) : rc [10] (mk b w) (b + 51) o = o := rc_mk (by decide +kernel) b w o
theorem gI_10_51_0 (b : Nat) (w : WD) : gI [10] 0 (mk b w) (b + 51) = some (w.1 51 0) := gI_mk (by decide +kernel) b w
theorem sI_10_51_0 (b : Nat) (w : WD) (v : Int32) : sI [10] 0 (mk b w) (b + 51) v = some (mk b (uI w 51 0 v)) := sI_mk (by decide +kernel) b w v
theorem gI_10_51_1 (b : Nat) (w : WD) : gI [10] 1 (mk b w) (b + 51) = some (w.1 51 1) := gI_mk (by decide +kernel) b w
theorem sI_10_51_1 (b : Nat) (w : WD) (v : Int32) : sI [10] 1 (mk b w) (b + 51) v = some (mk b (uI w 51 1 v)) := sI_mk (by decide +kernel) b w v
theorem gI_10_51_2 (b : Nat) (w : WD) : gI [10] 2 (mk b w) (b + 51) = some (w.1 51 2) := gI_mk (by decide +kernel) b w
theorem sI_10_51_2 (b : Nat) (w : WD) (v : Int32) : sI [10] 2 (mk b w) (b + 51) v = some (mk b (uI w 51 2 v)) := sI_mk (by decide +kernel) b w v
theorem gR_10_51_3 (b : Nat) (w : WD) : gR [10] 3 (mk b w) (b + 51) = some (b + 52) := gR_mk 52 (by decide +kernel) b w
theorem rc_9_64 (b : Nat) (w : WD) {X : Type} (o : Option X) : rc [9] (mk b w) (b + 64) o = o := rc_mk (by decide +kernel) b w o
theorem gR_9_64_0 (b : Nat) (w : WD) : gR [9] 0 (mk b w) (b + 64) = some (b + 65) := gR_mk 65 (by decide +kernel) b w
theorem gR_9_64_1 (b : Nat) (w : WD) : gR [9] 1 (mk b w) (b + 64) = some (b + 66) := gR_mk 66 (by decide +kernel) b w
theorem gR_9_64_2 (b : Nat) (w : WD) : gR [9] 2 (mk b w) (b + 64) = some (b + 67) := gR_mk 67 (by decide +kernel) b w
theorem rc_6_68 (b : Nat) (w : WD) {X : Type} (o : Option X) : rc [6] (mk b w) (b + 68) o = o := rc_mk (by decide +kernel) b w o
theorem gI_6_68_0 (b : Nat) (w : WD) : gI [6] 0 (mk b w) (b + 68) = some (w.1 68 0) := gI_mk (by decide +kernel) b w
theorem sI_6_68_0 (b : Nat) (w : WD) (v : Int32) : sI [6] 0 (mk b w) (b + 68) v = some (mk b (uI w 68 0 v)) := sI_mk (by decide +kernel) b w v
theorem gI_6_68_1 (b : Nat) (w : WD) : gI [6] 1 (mk b w) (b + 68) = some (w.1 68 1) := gI_mk (by decide +kernel) b w
theorem sI_6_68_1 (b : Nat) (w : WD) (v : Int32) : sI [6] 1 (mk b w) (b + 68) v = some (mk b (uI w 68 1 v)) := sI_mk (by decide +kernel) b w v
theorem gI_6_68_2 (b : Nat) (w : WD) : gI [6] 2 (mk b w) (b + 68) = some (w.1 68 2) := gI_mk (by decide +kernel) b w
theorem sI_6_68_2 (b : Nat) (w : WD) (v : Int32) : sI [6] 2 (mk b w) (b + 68) v = some (mk b (uI w 68 2 v)) := sI_mk (by decide +kernel) b w v
theorem gI_6_68_3 (b : Nat) (w : WD) : gI [6] 3 (mk b w) (b + 68) = some (w.1 68 3) := gI_mk (by decide +kernel) b w
theorem sI_6_68_3 (b : Nat) (w : WD) (v : Int32) : sI [6] 3 (mk b w) (b + 68) v = some (mk b (uI w 68 3 v)) := sI_mk (by decide +kernel) b w v
theorem gI_6_68_4 (b : Nat) (w : WD) : gI [6] 4 (mk b w) (b + 68) = some (w.1 68 4) := gI_mk (by decide +kernel) b w
theorem sI_6_68_4 (b : Nat) (w : WD) (v : Int32) : sI [6] 4 (mk b w) (b + 68) v = some (mk b (uI w 68 4 v)) := sI_mk (by decide +kernel) b w v
theorem gI_6_68_5 (b : Nat) (w : WD) : gI [6] 5 (mk b w) (b + 68) = some (w.1 68 5) := gI_mk (by decide +kernel) b w
theorem sI_6_68_5 (b : Nat) (w : WD) (v : Int32) : sI [6] 5 (mk b w) (b + 68) v = some (mk b (uI w 68 5 v)) := sI_mk (by decide +kernel) b w v
theorem rc_6_69 (b : Nat) (w : WD) {X : Type} (o : Option X) : rc [6] (mk b w) (b + 69) o = o := rc_mk (by decide +kernel) b w o
theorem gI_6_69_0 (b : Nat) (w : WD) : gI [6] 0 (mk b w) (b + 69) = some (w.1 69 0) := gI_mk (by decide +kernel) b w
theorem sI_6_69_0 (b : Nat) (w : WD) (v : Int32) : sI [6] 0 (mk b w) (b + 69) v = some (mk b (uI w 69 0 v)) := sI_mk (by decide +kernel) b w v
theorem gI_6_69_1 (b : Nat) (w : WD) : gI [6] 1 (mk b w) (b + 69) = some (w.1 69 1) := gI_mk (by decide +kernel) b w
theorem sI_6_69_1 (b : Nat) (w : WD) (v : Int32) : sI [6] 1 (mk b w) (b + 69) v = some (mk b (uI w 69 1 v)) := sI_mk (by decide +kernel) b w v
theorem gI_6_69_2 (b : Nat) (w : WD) : gI [6] 2 (mk b w) (b + 69) = some (w.1 69 2) := gI_mk (by decide +kernel) b w
theorem sI_6_69_2 (b : Nat) (w : WD) (v : Int32) : sI [6] 2 (mk b w) (b + 69) v = some (mk b (uI w 69 2 v)) := sI_mk (by decide +kernel) b w v
theorem gI_6_69_3 (b : Nat) (w : WD) : gI [6] 3 (mk b w) (b + 69) = some (w.1 69 3) := gI_mk (by decide +kernel) b w
theorem sI_6_69_3 (b : Nat) (w : WD) (v : Int32) : sI [6] 3 (mk b w) (b + 69) v = some (mk b (uI w 69 3 v)) := sI_mk (by decide +kernel) b w v
theorem gI_6_69_4 (b : Nat) (w : WD) : gI [6] 4 (mk b w) (b + 69) = some (w.1 69 4) := gI_mk (by decide +kernel) b w
theorem sI_6_69_4 (b : Nat) (w : WD) (v : Int32) : sI [6] 4 (mk b w) (b + 69) v = some (mk b (uI w 69 4 v)) := sI_mk (by decide +kernel) b w v
theorem gI_6_69_5 (b : Nat) (w : WD) : gI [6] 5 (mk b w) (b + 69) = some (w.1 69 5) := gI_mk (by decide +kernel) b w
theorem sI_6_69_5 (b : Nat) (w : WD) (v : Int32) : sI [6] 5 (mk b w) (b + 69) v = some (mk b (uI w 69 5 v)) := sI_mk (by decide +kernel) b w v
theorem rc_12_77 (b : Nat) (w : WD) {X : Type} (o : Option X) : rc [12] (mk b w) (b + 77) o = o := rc_mk (by decide +kernel) b w o
theorem gR_12_77_0 (b : Nat) (w : WD) : gR [12] 0 (mk b w) (b + 77) = some (b + 78) := gR_mk 78 (by decide +kernel) b w
theorem gR_12_77_1 (b : Nat) (w : WD) : gR [12] 1 (mk b w) (b + 77) = some (b + 79) := gR_mk 79 (by decide +kernel) b w
theorem gR_12_77_2 (b : Nat) (w : WD) : gR [12] 2 (mk b w) (b + 77) = some (b + 80) := gR_mk 80 (by decide +kernel) b w
theorem gR_12_77_3 (b : Nat) (w : WD) : gR [12] 3 (mk b w) (b + 77) = some (b + 81) := gR_mk 81 (by decide +kernel) b w
theorem gR_12_77_4 (b : Nat) (w : WD) : gR [12] 4 (mk b w) (b + 77) = some (b + 82) := gR_mk 82 (by decide +kernel) b w
theorem gI_12_77_5 (b : Nat) (w : WD) : gI [12] 5 (mk b w) (b + 77) = some (w.1 77 5) := gI_mk (by decide +kernel) b w
theorem sI_12_77_5 (b : Nat) (w : WD) (v : Int32) : sI [12] 5 (mk b w) (b + 77) v = some (mk b (uI w 77 5 v)) := sI_mk (by decide +kernel) b w v
theorem gI_12_77_6 (b : Nat) (w : WD) : gI [12] 6 (mk b w) (b + 77) = some (w.1 77 6) := gI_mk (by decide +kernel) b w
theorem sI_12_77_6 (b : Nat) (w : WD) (v : Int32) : sI [12] 6 (mk b w) (b + 77) v = some (mk b (uI w 77 6 v)) := sI_mk (by decide +kernel) b w v
theorem gI_12_77_7 (b : Nat) (w : WD) : gI [12] 7 (mk b w) (b + 77) = some (w.1 77 7) := gI_mk (by decide +kernel) b w
theorem sI_12_77_7 (b : Nat) (w : WD) (v : Int32) : sI [12] 7 (mk b w) (b + 77) v = some (mk b (uI w 77 7 v)) := sI_mk (by decide +kernel) b w v
theorem gI_12_77_8 (b : Nat) (w : WD) : gI [12] 8 (mk b w) (b + 77) = some (w.1 77 8) := gI_mk (by decide +kernel) b w
theorem sI_12_77_8 (b : Nat) (w : WD) (v : Int32) : sI [12] 8 (mk b w) (b + 77) v = some (mk b (uI w 77 8 v)) := sI_mk (by decide +kernel) b w v
theorem gI_12_77_9 (b : Nat) (w : WD) : gI [12] 9 (mk b w) (b + 77) = some (w.1 77 9) := gI_mk (by decide +kernel) b w
theorem sI_12_77_9 (b : Nat) (w : WD) (v : Int32) : sI [12] 9 (mk b w) (b + 77) v = some (mk b (uI w 77 9 v)) := sI_mk (by decide +kernel) b w v
theorem gI_12_77_10 (b : Nat) (w : WD) : gI [12] 10 (mk b w) (b + 77) = some (w.1 77 10) := gI_mk (by decide +kernel) b w
theorem sI_12_77_10 (b : Nat) (w : WD) (v : Int32) : sI [12] 10 (mk b w) (b + 77) v = some (mk b (uI w 77 10 v)) := sI_mk (by decide +kernel) b w v
theorem gI_12_77_11 (b : Nat) (w : WD) : gI [12] 11 (mk b w) (b + 77) = some (w.1 77 11) := gI_mk (by decide +kernel) b w
theorem sI_12_77_11 (b : Nat) (w : WD) (v : Int32) : sI [12] 11 (mk b w) (b + 77) v = some (mk b (uI w 77 11 v)) := sI_mk (by decide +kernel) b w v
theorem gI_12_77_12 (b : Nat) (w : WD) : gI [12] 12 (mk b w) (b + 77) = some (w.1 77 12) := gI_mk (by decide +kernel) b w
theorem sI_12_77_12 (b : Nat) (w : WD) (v : Int32) : sI [12] 12 (mk b w) (b + 77) v = some (mk b (uI w 77 12 v)) := sI_mk (by decide +kernel) b w v
theorem gR_12_77_13 (b : Nat) (w : WD) : gR [12] 13 (mk b w) (b + 77) = some (b + 83) := gR_mk 83 (by decide +kernel) b w
theorem gI_12_77_14 (b : Nat) (w : WD) : gI [12] 14 (mk b w) (b + 77) = some (w.1 77 14) := gI_mk (by decide +kernel) b w
theorem sI_12_77_14 (b : Nat) (w : WD) (v : Int32) : sI [12] 14 (mk b w) (b + 77) v = some (mk b (uI w 77 14 v)) := sI_mk (by decide +kernel) b w v
theorem gI_12_77_15 (b : Nat) (w : WD) : gI [12] 15 (mk b w) (b + 77) = some (w.1 77 15) := gI_mk (by decide +kernel) b w
theorem sI_12_77_15 (b : Nat) (w : WD) (v : Int32) : sI [12] 15 (mk b w) (b + 77) v = some (mk b (uI w 77 15 v)) := sI_mk (by decide +kernel) b w v
theorem gI_12_77_16 (b : Nat) (w : WD) : gI [12] 16 (mk b w) (b + 77) = some (w.1 77 16) := gI_mk (by decide +kernel) b w
theorem sI_12_77_16 (b : Nat) (w : WD) (v : Int32) : sI [12] 16 (mk b w) (b + 77) v = some (mk b (uI w 77 16 v)) := sI_mk (by decide +kernel) b w v
theorem gI_12_77_17 (b : Nat) (w : WD) : gI [12] 17 (mk b w) (b + 77) = some (w.1 77 17) := gI_mk (by decide +kernel) b w
theorem sI_12_77_17 (b : Nat) (w : WD) (v : Int32) : sI [12] 17 (mk b w) (b + 77) v = some (mk b (uI w 77 17 v)) := sI_mk (by decide +kernel) b w v
theorem gI_12_77_18 (b : Nat) (w : WD) : gI [12] 18 (mk b w) (b + 77) = some (w.1 77 18) := gI_mk (by decide +kernel) b w
theorem sI_12_77_18 (b : Nat) (w : WD) (v : Int32) : sI [12] 18 (mk b w) (b + 77) v = some (mk b (uI w 77 18 v)) := sI_mk (by decide +kernel) b w v
theorem gI_12_77_19 (b : Nat) (w : WD) : gI [12] 19 (mk b w) (b + 77) = some (w.1 77 19) := gI_mk (by decide +kernel) b w
theorem sI_12_77_19 (b : Nat) (w : WD) (v : Int32) : sI [12] 19 (mk b w) (b + 77) v = some (mk b (uI w 77 19 v)) := sI_mk (by decide +kernel) b w v
theorem gI_12_77_20 (b : Nat) (w : WD) : gI [12] 20 (mk b w) (b + 77) = some (w.1 77 20) := gI_mk (by decide +kernel) b w
theorem sI_12_77_20 (b : Nat) (w : WD) (v : Int32) : sI [12] 20 (mk b w) (b + 77) v = some (mk b (uI w 77 20 v)) := sI_mk (by decide +kernel) b w v
theorem gI_12_77_21 (b : Nat) (w : WD) : gI [12] 21 (mk b w) (b + 77) = some (w.1 77 21) := gI_mk (by decide +kernel) b w
theorem sI_12_77_21 (b : Nat) (w : WD) (v : Int32) : sI [12] 21 (mk b w) (b + 77) v = some (mk b (uI w 77 21 v)) := sI_mk (by decide +kernel) b w v
theorem gI_12_77_22 (b : Nat) (w : WD) : gI [12] 22 (mk b w) (b + 77) = some (w.1 77 22) := gI_mk (by decide +kernel) b w
theorem sI_12_77_22 (b : Nat) (w : WD) (v : Int32) : sI [12] 22 (mk b w) (b + 77) v = some (mk b (uI w 77 22 v)) := sI_mk (by decide +kernel) b w v
theorem gI_12_77_23 (b : Nat) (w : WD) : gI [12] 23 (mk b w) (b + 77) = some (w.1 77 23) := gI_mk (by decide +kernel) b w
theorem sI_12_77_23 (b : Nat) (w : WD) (v : Int32) : sI [12] 23 (mk b w) (b + 77) v = some (mk b (uI w 77 23 v)) := sI_mk (by decide +kernel) b w v
theorem gR_12_77_24 (b : Nat) (w : WD) : gR [12] 24 (mk b w) (b + 77) = some (b + 84) := gR_mk 84 (by decide +kernel) b w
theorem gR_12_77_25 (b : Nat) (w : WD) : gR [12] 25 (mk b w) (b + 77) = some (b + 85) := gR_mk 85 (by decide +kernel) b w
theorem gR_12_77_26 (b : Nat) (w : WD) : gR [12] 26 (mk b w) (b + 77) = some (b + 86) := gR_mk 86 (by decide +kernel) b w
theorem gR_12_77_27 (b : Nat) (w : WD) : gR [12] 27 (mk b w) (b + 77) = some (b + 87) := gR_mk 87 (by decide +kernel) b w
theorem gR_12_77_28 (b : Nat) (w : WD) : gR [12] 28 (mk b w) (b + 77) = some (b + 88) := gR_mk 88 (by decide +kernel) b w
theorem gR_12_77_29 (b : Nat) (w : WD) : gR [12] 29 (mk b w) (b + 77) = some (b + 89) := gR_mk 89 (by decide +kernel) b w
theorem gR_12_77_30 (b : Nat) (w : WD) : gR [12] 30 (mk b w) (b + 77) = some (b + 90) := gR_mk 90 (by decide +kernel) b w
theorem gR_12_77_31 (b : Nat) (w : WD) : gR [12] 31 (mk b w) (b + 77) = some (b + 91) := gR_mk 91 (by decide +kernel) b w
theorem gR_12_77_32 (b : Nat) (w : WD) : gR [12] 32 (mk b w) (b + 77) = some (b + 92) := gR_mk 92 (by decide +kernel) b w
theorem gR_12_77_33 (b : Nat) (w : WD) : gR [12] 33 (mk b w) (b + 77) = some (b + 93) := gR_mk 93 (by decide +kernel) b w
theorem gR_12_77_34 (b : Nat) (w : WD) : gR [12] 34 (mk b w) (b + 77) = some (b + 94) := gR_mk 94 (by decide +kernel) b w
theorem gR_12_77_35 (b : Nat) (w : WD) : gR [12] 35 (mk b w) (b + 77) = some (b + 95) := gR_mk 95 (by decide +kernel) b w
theorem gR_12_77_36 (b : Nat) (w : WD) : gR [12] 36 (mk b w) (b + 77) = some (b + 96) := gR_mk 96 (by decide +kernel) b w
theorem gR_12_77_37 (b : Nat) (w : WD) : gR [12] 37 (mk b w) (b + 77) = some (b + 97) := gR_mk 97 (by decide +kernel) b w
theorem gR_12_77_38 (b : Nat) (w : WD) : gR [12] 38 (mk b w) (b + 77) = some (b + 98) := gR_mk 98 (by decide +kernel) b w
theorem gR_12_77_39 (b : Nat) (w : WD) : gR [12] 39 (mk b w) (b + 77) = some (b + 99) := gR_mk 99 (by decide +kernel) b w
theorem gI_12_77_40 (b : Nat) (w : WD) : gI [12] 40 (mk b w) (b + 77) = some (w.1 77 40) := gI_mk (by decide +kernel) b w
theorem sI_12_77_40 (b : Nat) (w : WD) (v : Int32) : sI [12] 40 (mk b w) (b + 77) v = some (mk b (uI w 77 40 v)) := sI_mk (by decide +kernel) b w v
theorem gI_12_77_41 (b : Nat) (w : WD) : gI [12] 41 (mk b w) (b + 77) = some (w.1 77 41) := gI_mk (by decide +kernel) b w
theorem sI_12_77_41 (b : Nat) (w : WD) (v : Int32) : sI [12] 41 (mk b w) (b + 77) v = some (mk b (uI w 77 41 v)) := sI_mk (by decide +kernel) b w v
theorem gI_12_77_42 (b : Nat) (w : WD) : gI [12] 42 (mk b w) (b + 77) = some (w.1 77 42) := gI_mk (by decide +kernel) b w
theorem sI_12_77_42 (b : Nat) (w : WD) (v : Int32) : sI [12] 42 (mk b w) (b + 77) v = some (mk b (uI w 77 42 v)) := sI_mk (by decide +kernel) b w v
theorem gI_12_77_43 (b : Nat) (w : WD) : gI [12] 43 (mk b w) (b + 77) = some (w.1 77 43) := gI_mk (by decide +kernel) b w
theorem sI_12_77_43 (b : Nat) (w : WD) (v : Int32) : sI [12] 43 (mk b w) (b + 77) v = some (mk b (uI w 77 43 v)) := sI_mk (by decide +kernel) b w v
theorem gR_12_77_44 (b : Nat) (w : WD) : gR [12] 44 (mk b w) (b + 77) = some (b + 100) := gR_mk 100 (by decide +kernel) b w
theorem gI_12_77_45 (b : Nat) (w : WD) : gI [12] 45 (mk b w) (b + 77) = some (w.1 77 45) := gI_mk (by decide +kernel) b w
theorem sI_12_77_45 (b : Nat) (w : WD) (v : Int32) : sI [12] 45 (mk b w) (b + 77) v = some (mk b (uI w 77 45 v)) := sI_mk (by decide +kernel) b w v
theorem gI_12_77_46 (b : Nat) (w : WD) : gI [12] 46 (mk b w) (b + 77) = some (w.1 77 46) := gI_mk (by decide +kernel) b w
theorem sI_12_77_46 (b : Nat) (w : WD) (v : Int32) : sI [12] 46 (mk b w) (b + 77) v = some (mk b (uI w 77 46 v)) := sI_mk (by decide +kernel) b w v
theorem gI_12_77_47 (b : Nat) (w : WD) : gI [12] 47 (mk b w) (b + 77) = some (w.1 77 47) := gI_mk (by decide +kernel) b w
theorem sI_12_77_47 (b : Nat) (w : WD) (v : Int32) : sI [12] 47 (mk b w) (b + 77) v = some (mk b (uI w 77 47 v)) := sI_mk (by decide +kernel) b w v
theorem gI_12_77_48 (b : Nat) (w : WD) : gI [12] 48 (mk b w) (b + 77) = some (w.1 77 48) := gI_mk (by decide +kernel) b w
theorem sI_12_77_48 (b : Nat) (w : WD) (v : Int32) : sI [12] 48 (mk b w) (b + 77) v = some (mk b (uI w 77 48 v)) := sI_mk (by decide +kernel) b w v
theorem gI_12_77_49 (b : Nat) (w : WD) : gI [12] 49 (mk b w) (b + 77) = some (w.1 77 49) := gI_mk (by decide +kernel) b w
theorem sI_12_77_49 (b : Nat) (w : WD) (v : Int32) : sI [12] 49 (mk b w) (b + 77) v = some (mk b (uI w 77 49 v)) := sI_mk (by decide +kernel) b w v
theorem gI_12_77_50 (b : Nat) (w : WD) : gI [12] 50 (mk b w) (b + 77) = some (w.1 77 50) := gI_mk (by decide +kernel) b w
theorem sI_12_77_50 (b : Nat) (w : WD) (v : Int32) : sI [12] 50 (mk b w) (b + 77) v = some (mk b (uI w 77 50 v)) := sI_mk (by decide +kernel) b w v
theorem gI_12_77_51 (b : Nat) (w : WD) : gI [12] 51 (mk b w) (b + 77) = some (w.1 77 51) := gI_mk (by decide +kernel) b w
theorem sI_12_77_51 (b : Nat) (w : WD) (v : Int32) : sI [12] 51 (mk b w) (b + 77) v = some (mk b (uI w 77 51 v)) := sI_mk (by decide +kernel) b w v
theorem gI_12_77_52 (b : Nat) (w : WD) : gI [12] 52 (mk b w) (b + 77) = some (w.1 77 52) := gI_mk (by decide +kernel) b w
theorem sI_12_77_52 (b : Nat) (w : WD) (v : Int32) : sI [12] 52 (mk b w) (b + 77) v = some (mk b (uI w 77 52 v)) := sI_mk (by decide +kernel) b w v
theorem gI_12_77_53 (b : Nat) (w : WD) : gI [12] 53 (mk b w) (b + 77) = some (w.1 77 53) := gI_mk (by decide +kernel) b w
theorem sI_12_77_53 (b : Nat) (w : WD) (v : Int32) : sI [12] 53 (mk b w) (b + 77) v = some (mk b (uI w 77 53 v)) := sI_mk (by decide +kernel) b w v
theorem gR_12_77_54 (b : Nat) (w : WD) : gR [12] 54 (mk b w) (b + 77) = some (b + 101) := gR_mk 101 (by decide +kernel) b w
theorem gR_12_77_55 (b : Nat) (w : WD) : gR [12] 55 (mk b w) (b + 77) = some (b + 102) := gR_mk 102 (by decide +kernel) b w
theorem gR_12_77_56 (b : Nat) (w : WD) : gR [12] 56 (mk b w) (b + 77) = some (b + 103) := gR_mk 103 (by decide +kernel) b w
theorem gR_12_77_57 (b : Nat) (w : WD) : gR [12] 57 (mk b w) (b + 77) = some (b + 104) := gR_mk 104 (by decide +kernel) b w
theorem gR_12_77_58 (b : Nat) (w : WD) : gR [12] 58 (mk b w) (b + 77) = some (b + 105) := gR_mk 105 (by decide +kernel) b w
theorem gI_12_77_59 (b : Nat) (w : WD) : gI [12] 59 (mk b w) (b + 77) = some (w.1 77 59) := gI_mk (by decide +kernel) b w
theorem sI_12_77_59 (b : Nat) (w : WD) (v : Int32) : sI [12] 59 (mk b w) (b + 77) v = some (mk b (uI w 77 59 v)) := sI_mk (by decide +kernel) b w v
theorem gI_12_77_60 (b : Nat) (w : WD) : gI [12] 60 (mk b w) (b + 77) = some (w.1 77 60) := gI_mk (by decide +kernel) b w
theorem sI_12_77_60 (b : Nat) (w : WD) (v : Int32) : sI [12] 60 (mk b w) (b + 77) v = some (mk b (uI w 77 60 v)) := sI_mk (by decide +kernel) b w v
theorem gI_12_77_61 (b : Nat) (w : WD) : gI [12] 61 (mk b w) (b + 77) = some (w.1 77 61) := gI_mk (by decide +kernel) b w
theorem sI_12_77_61 (b : Nat) (w : WD) (v : Int32) : sI [12] 61 (mk b w) (b + 77) v = some (mk b (uI w 77 61 v)) := sI_mk (by decide +kernel) b w v
theorem gI_12_77_62 (b : Nat) (w : WD) : gI [12] 62 (mk b w) (b + 77) = some (w.1 77 62) := gI_mk (by decide +kernel) b w
theorem sI_12_77_62 (b : Nat) (w : WD) (v : Int32) : sI [12] 62 (mk b w) (b + 77) v = some (mk b (uI w 77 62 v)) := sI_mk (by decide +kernel) b w v
theorem gI_12_77_63 (b : Nat) (w : WD) : gI [12] 63 (mk b w) (b + 77) = some (w.1 77 63) := gI_mk (by decide +kernel) b w
theorem sI_12_77_63 (b : Nat) (w : WD) (v : Int32) : sI [12] 63 (mk b w) (b + 77) v = some (mk b (uI w 77 63 v)) := sI_mk (by decide +kernel) b w v
theorem gI_12_77_64 (b : Nat) (w : WD) : gI [12] 64 (mk b w) (b + 77) = some (w.1 77 64) := gI_mk (by decide +kernel) b w
theorem sI_12_77_64 (b : Nat) (w : WD) (v : Int32) : sI [12] 64 (mk b w) (b + 77) v = some (mk b (uI w 77 64 v)) := sI_mk (by decide +kernel) b w v
theorem gI_12_77_65 (b : Nat) (w : WD) : gI [12] 65 (mk b w) (b + 77) = some (w.1 77 65) := gI_mk (by decide +kernel) b w
theorem sI_12_77_65 (b : Nat) (w : WD) (v : Int32) : sI [12] 65 (mk b w) (b + 77) v = some (mk b (uI w 77 65 v)) := sI_mk (by decide +kernel) b w v
def LW (o : Nat) : Prop := o = 35 ∨ o = 70
theorem rc_2_o (b : Nat) (w : WD) {o : Nat} (ho : LW o) {X : Type} (z : Option X) : rc [2] (mk b w) (b + o) z = z := by
  rcases ho with rfl | rfl
  · exact rc_mk (by decide +kernel) b w z
  · exact rc_mk (by decide +kernel) b w z
theorem gR_2_o_0 (b : Nat) (w : WD) {o : Nat} (ho : LW o) : gR [2] 0 (mk b w) (b + o) = some (b + 1) := by
  rcases ho with rfl | rfl
  · exact gR_mk 1 (by decide +kernel) b w
  · exact gR_mk 1 (by decide +kernel) b w
theorem gI_2_o_1 (b : Nat) (w : WD) {o : Nat} (ho : LW o) : gI [2] 1 (mk b w) (b + o) = some (w.1 o 1) := by
  rcases ho with rfl | rfl
  · exact gI_mk (by decide +kernel) b w
  · exact gI_mk (by decide +kernel) b w
theorem sI_2_o_1 (b : Nat) (w : WD) {o : Nat} (ho : LW o) (v : Int32) : sI [2] 1 (mk b w) (b + o) v = some (mk b (uI w o 1 v)) := by
  rcases ho with rfl | rfl
  · exact sI_mk (by decide +kernel) b w v
  · exact sI_mk (by decide +kernel) b w v
theorem gI_2_o_2 (b : Nat) (w : WD) {o : Nat} (ho : LW o) : gI [2] 2 (mk b w) (b + o) = some (w.1 o 2) := by
  rcases ho with rfl | rfl
  · exact gI_mk (by decide +kernel) b w
  · exact gI_mk (by decide +kernel) b w
theorem sI_2_o_2 (b : Nat) (w : WD) {o : Nat} (ho : LW o) (v : Int32) : sI [2] 2 (mk b w) (b + o) v = some (mk b (uI w o 2 v)) := by
  rcases ho with rfl | rfl
  · exact sI_mk (by decide +kernel) b w v
  · exact sI_mk (by decide +kernel) b w v
theorem gI_2_o_3 (b : Nat) (w : WD) {o : Nat} (ho : LW o) : gI [2] 3 (mk b w) (b + o) = some (w.1 o 3) := by
  rcases ho with rfl | rfl
  · exact gI_mk (by decide +kernel) b w
  · exact gI_mk (by decide +kernel) b w
theorem sI_2_o_3 (b : Nat) (w : WD) {o : Nat} (ho : LW o) (v : Int32) : sI [2] 3 (mk b w) (b + o) v = some (mk b (uI w o 3 v)) := by
  rcases ho with rfl | rfl
  · exact sI_mk (by decide +kernel) b w v
  · exact sI_mk (by decide +kernel) b w v
theorem gI_2_o_4 (b : Nat) (w : WD) {o : Nat} (ho : LW o) : gI [2] 4 (mk b w) (b + o) = some (w.1 o 4) := by
  rcases ho with rfl | rfl
  · exact gI_mk (by decide +kernel) b w
  · exact gI_mk (by decide +kernel) b w
theorem sI_2_o_4 (b : Nat) (w : WD) {o : Nat} (ho : LW o) (v : Int32) : sI [2] 4 (mk b w) (b + o) v = some (mk b (uI w o 4 v)) := by
  rcases ho with rfl | rfl
  · exact sI_mk (by decide +kernel) b w v
  · exact sI_mk (by decide +kernel) b w v
theorem gR_2_o_5 (b : Nat) (w : WD) {o : Nat} (ho : LW o) : gR [2] 5 (mk b w) (b + o) = some (b + (o + 1)) := by
  rcases ho with rfl | rfl
  · exact gR_mk _ (by decide +kernel) b w
  · exact gR_mk _ (by decide +kernel) b w
theorem gR_2_o_6 (b : Nat) (w : WD) {o : Nat} (ho : LW o) : gR [2] 6 (mk b w) (b + o) = some (b + (o + 2)) := by
  rcases ho with rfl | rfl
  · exact gR_mk _ (by decide +kernel) b w
  · exact gR_mk _ (by decide +kernel) b w
theorem gR_2_o_7 (b : Nat) (w : WD) {o : Nat} (ho : LW o) : gR [2] 7 (mk b w) (b + o) = some (b + (o + 3)) := by
  rcases ho with rfl | rfl
  · exact gR_mk _ (by decide +kernel) b w
  · exact gR_mk _ (by decide +kernel) b w
theorem gR_2_o_8 (b : Nat) (w : WD) {o : Nat} (ho : LW o) : gR [2] 8 (mk b w) (b + o) = some (b + (o + 4)) := by
  rcases ho with rfl | rfl
  · exact gR_mk _ (by decide +kernel) b w
  · exact gR_mk _ (by decide +kernel) b w
theorem gI_2_o_9 (b : Nat) (w : WD) {o : Nat} (ho : LW o) : gI [2] 9 (mk b w) (b + o) = some (w.1 o 9) := by
  rcases ho with rfl | rfl
  · exact gI_mk (by decide +kernel) b w
  · exact gI_mk (by decide +kernel) b w
theorem sI_2_o_9 (b : Nat) (w : WD) {o : Nat} (ho : LW o) (v : Int32) : sI [2] 9 (mk b w) (b + o) v = some (mk b (uI w o 9 v)) := by
  rcases ho with rfl | rfl
  · exact sI_mk (by decide +kernel) b w v
  · exact sI_mk (by decide +kernel) b w v
theorem gR_2_o_10 (b : Nat) (w : WD) {o : Nat} (ho : LW o) : gR [2] 10 (mk b w) (b + o) = some (b + (o + 5)) := by
  rcases ho with rfl | rfl
  · exact gR_mk _ (by decide +kernel) b w
  · exact gR_mk _ (by decide +kernel) b w
theorem gR_2_o_11 (b : Nat) (w : WD) {o : Nat} (ho : LW o) : gR [2] 11 (mk b w) (b + o) = some (b + (o + 6)) := by
  rcases ho with rfl | rfl
  · exact gR_mk _ (by decide +kernel) b w
  · exact gR_mk _ (by decide +kernel) b w
theorem gI_2_o_12 (b : Nat) (w : WD) {o : Nat} (ho : LW o) : gI [2] 12 (mk b w) (b + o) = some (w.1 o 12) := by
  rcases ho with rfl | rfl
  · exact gI_mk (by decide +kernel) b w
  · exact gI_mk (by decide +kernel) b w
theorem sI_2_o_12 (b : Nat) (w : WD) {o : Nat} (ho : LW o) (v : Int32) : sI [2] 12 (mk b w) (b + o) v = some (mk b (uI w o 12 v)) := by
  rcases ho with rfl | rfl
  · exact sI_mk (by decide +kernel) b w v
  · exact sI_mk (by decide +kernel) b w v
theorem rc_1_2_o (b : Nat) (w : WD) {o : Nat} (ho : LW o) {X : Type} (z : Option X) : rc [1, 2] (mk b w) (b + o) z = z := by
  rcases ho with rfl | rfl
  · exact rc_mk (by decide +kernel) b w z
  · exact rc_mk (by decide +kernel) b w z
theorem gR_1_2_o_0 (b : Nat) (w : WD) {o : Nat} (ho : LW o) : gR [1, 2] 0 (mk b w) (b + o) = some (b + 1) := by
  rcases ho with rfl | rfl
  · exact gR_mk 1 (by decide +kernel) b w
  · exact gR_mk 1 (by decide +kernel) b w
theorem gI_1_2_o_1 (b : Nat) (w : WD) {o : Nat} (ho : LW o) : gI [1, 2] 1 (mk b w) (b + o) = some (w.1 o 1) := by
  rcases ho with rfl | rfl
  · exact gI_mk (by decide +kernel) b w
  · exact gI_mk (by decide +kernel) b w
theorem sI_1_2_o_1 (b : Nat) (w : WD) {o : Nat} (ho : LW o) (v : Int32) : sI [1, 2] 1 (mk b w) (b + o) v = some (mk b (uI w o 1 v)) := by
  rcases ho with rfl | rfl
  · exact sI_mk (by decide +kernel) b w v
  · exact sI_mk (by decide +kernel) b w v
theorem gI_1_2_o_2 (b : Nat) (w : WD) {o : Nat} (ho : LW o) : gI [1, 2] 2 (mk b w) (b + o) = some (w.1 o 2) := by
  rcases ho with rfl | rfl
  · exact gI_mk (by decide +kernel) b w
  · exact gI_mk (by decide +kernel) b w
theorem sI_1_2_o_2 (b : Nat) (w : WD) {o : Nat} (ho : LW o) (v : Int32) : sI [1, 2] 2 (mk b w) (b + o) v = some (mk b (uI w o 2 v)) := by
  rcases ho with rfl | rfl
  · exact sI_mk (by decide +kernel) b w v
  · exact sI_mk (by decide +kernel) b w v
theorem gI_1_2_o_3 (b : Nat) (w : WD) {o : Nat} (ho : LW o) : gI [1, 2] 3 (mk b w) (b + o) = some (w.1 o 3) := by
  rcases ho with rfl | rfl
  · exact gI_mk (by decide +kernel) b w
  · exact gI_mk (by decide +kernel) b w
theorem sI_1_2_o_3 (b : Nat) (w : WD) {o : Nat} (ho : LW o) (v : Int32) : sI [1, 2] 3 (mk b w) (b + o) v = some (mk b (uI w o 3 v)) := by
  rcases ho with rfl | rfl
  · exact sI_mk (by decide +kernel) b w v
  · exact sI_mk (by decide +kernel) b w v
theorem gI_1_2_o_4 (b : Nat) (w : WD) {o : Nat} (ho : LW o) : gI [1, 2] 4 (mk b w) (b + o) = some (w.1 o 4) := by
  rcases ho with rfl | rfl
  · exact gI_mk (by decide +kernel) b w
  · exact gI_mk (by decide +kernel) b w
theorem sI_1_2_o_4 (b : Nat) (w : WD) {o : Nat} (ho : LW o) (v : Int32) : sI [1, 2] 4 (mk b w) (b + o) v = some (mk b (uI w o 4 v)) := by
  rcases ho with rfl | rfl
  · exact sI_mk (by decide +kernel) b w v
  · exact sI_mk (by decide +kernel) b w v
theorem gR_1_2_o_5 (b : Nat) (w : WD) {o : Nat} (ho : LW o) : gR [1, 2] 5 (mk b w) (b + o) = some (b + (o + 1)) := by
  rcases ho with rfl | rfl
  · exact gR_mk _ (by decide +kernel) b w
  · exact gR_mk _ (by decide +kernel) b w
theorem gR_1_2_o_6 (b : Nat) (w : WD) {o : Nat} (ho : LW o) : gR [1, 2] 6 (mk b w) (b + o) = some (b + (o + 2)) := by
  rcases ho with rfl | rfl
  · exact gR_mk _ (by decide +kernel) b w
  · exact gR_mk _ (by decide +kernel) b w
theorem gR_1_2_o_7 (b : Nat) (w : WD) {o : Nat} (ho : LW o) : gR [1, 2] 7 (mk b w) (b + o) = some (b + (o + 3)) := by
  rcases ho with rfl | rfl
  · exact gR_mk _ (by decide +kernel) b w
  · exact gR_mk _ (by decide +kernel) b w
theorem gR_1_2_o_8 (b : Nat) (w : WD) {o : Nat} (ho : LW o) : gR [1, 2] 8 (mk b w) (b + o) = some (b + (o + 4)) := by
  rcases ho with rfl | rfl
  · exact gR_mk _ (by decide +kernel) b w
  · exact gR_mk _ (by decide +kernel) b w
theorem gI_1_2_o_9 (b : Nat) (w : WD) {o : Nat} (ho : LW o) : gI [1, 2] 9 (mk b w) (b + o) = some (w.1 o 9) := by
  rcases ho with rfl | rfl
  · exact gI_mk (by decide +kernel) b w
  · exact gI_mk (by decide +kernel) b w
theorem sI_1_2_o_9 (b : Nat) (w : WD) {o : Nat} (ho : LW o) (v : Int32) : sI [1, 2] 9 (mk b w) (b + o) v = some (mk b (uI w o 9 v)) := by
  rcases ho with rfl | rfl
  · exact sI_mk (by decide +kernel) b w v
  · exact sI_mk (by decide +kernel) b w v
theorem gR_1_2_o_10 (b : Nat) (w : WD) {o : Nat} (ho : LW o) : gR [1, 2] 10 (mk b w) (b + o) = some (b + (o + 5)) := by
  rcases ho with rfl | rfl
  · exact gR_mk _ (by decide +kernel) b w
  · exact gR_mk _ (by decide +kernel) b w
theorem gR_1_2_o_11 (b : Nat) (w : WD) {o : Nat} (ho : LW o) : gR [1, 2] 11 (mk b w) (b + o) = some (b + (o + 6)) := by
  rcases ho with rfl | rfl
  · exact gR_mk _ (by decide +kernel) b w
  · exact gR_mk _ (by decide +kernel) b w
theorem gI_1_2_o_12 (b : Nat) (w : WD) {o : Nat} (ho : LW o) : gI [1, 2] 12 (mk b w) (b + o) = some (w.1 o 12) := by
  rcases ho with rfl | rfl
  · exact gI_mk (by decide +kernel) b w
  · exact gI_mk (by decide +kernel) b w
theorem sI_1_2_o_12 (b : Nat) (w : WD) {o : Nat} (ho : LW o) (v : Int32) : sI [1, 2] 12 (mk b w) (b + o) v = some (mk b (uI w o 12 v)) := by
  rcases ho with rfl | rfl
  · exact sI_mk (by decide +kernel) b w v
  · exact sI_mk (by decide +kernel) b w v
theorem rc_6_t (b : Nat) (w : WD) {i : Nat} (hi : i < 6) {X : Type} (z : Option X) : rc [6] (mk b w) (b + (45 + i)) z = z := rc_mk ((by decide +kernel : ∀ i, i < 6 → okO [6] (45 + i) = true) i hi) b w z
theorem gI_6_t_0 (b : Nat) (w : WD) {i : Nat} (hi : i < 6) : gI [6] 0 (mk b w) (b + (45 + i)) = some (w.1 (45 + i) 0) := gI_mk ((by decide +kernel : ∀ i, i < 6 → okE [6] (45 + i) 0 0 = true) i hi) b w
theorem sI_6_t_0 (b : Nat) (w : WD) {i : Nat} (hi : i < 6) (v : Int32) : sI [6] 0 (mk b w) (b + (45 + i)) v = some (mk b (uI w (45 + i) 0 v)) := sI_mk ((by decide +kernel : ∀ i, i < 6 → okE [6] (45 + i) 0 0 = true) i hi) b w v
theorem gI_6_t_1 (b : Nat) (w : WD) {i : Nat} (hi : i < 6) : gI [6] 1 (mk b w) (b + (45 + i)) = some (w.1 (45 + i) 1) := gI_mk ((by decide +kernel : ∀ i, i < 6 → okE [6] (45 + i) 1 0 = true) i hi) b w
theorem sI_6_t_1 (b : Nat) (w : WD) {i : Nat} (hi : i < 6) (v : Int32) : sI [6] 1 (mk b w) (b + (45 + i)) v = some (mk b (uI w (45 + i) 1 v)) := sI_mk ((by decide +kernel : ∀ i, i < 6 → okE [6] (45 + i) 1 0 = true) i hi) b w v
theorem gI_6_t_2 (b : Nat) (w : WD) {i : Nat} (hi : i < 6) : gI [6] 2 (mk b w) (b + (45 + i)) = some (w.1 (45 + i) 2) := gI_mk ((by decide +kernel : ∀ i, i < 6 → okE [6] (45 + i) 2 0 = true) i hi) b w
theorem sI_6_t_2 (b : Nat) (w : WD) {i : Nat} (hi : i < 6) (v : Int32) : sI [6] 2 (mk b w) (b + (45 + i)) v = some (mk b (uI w (45 + i) 2 v)) := sI_mk ((by decide +kernel : ∀ i, i < 6 → okE [6] (45 + i) 2 0 = true) i hi) b w v
theorem gI_6_t_3 (b : Nat) (w : WD) {i : Nat} (hi : i < 6) : gI [6] 3 (mk b w) (b + (45 + i)) = some (w.1 (45 + i) 3) := gI_mk ((by decide +kernel : ∀ i, i < 6 → okE [6] (45 + i) 3 0 = true) i hi) b w
theorem sI_6_t_3 (b : Nat) (w : WD) {i : Nat} (hi : i < 6) (v : Int32) : sI [6] 3 (mk b w) (b + (45 + i)) v = some (mk b (uI w (45 + i) 3 v)) := sI_mk ((by decide +kernel : ∀ i, i < 6 → okE [6] (45 + i) 3 0 = true) i hi) b w v
theorem gI_6_t_4 (b : Nat) (w : WD) {i : Nat} (hi : i < 6) : gI [6] 4 (mk b w) (b + (45 + i)) = some (w.1 (45 + i) 4) := gI_mk ((by decide +kernel : ∀ i, i < 6 → okE [6] (45 + i) 4 0 = true) i hi) b w
theorem sI_6_t_4 (b : Nat) (w : WD) {i : Nat} (hi : i < 6) (v : Int32) : sI [6] 4 (mk b w) (b + (45 + i)) v = some (mk b (uI w (45 + i) 4 v)) := sI_mk ((by decide +kernel : ∀ i, i < 6 → okE [6] (45 + i) 4 0 = true) i hi) b w v
theorem gI_6_t_5 (b : Nat) (w : WD) {i : Nat} (hi : i < 6) : gI [6] 5 (mk b w) (b + (45 + i)) = some (w.1 (45 + i) 5) := gI_mk ((by decide +kernel : ∀ i, i < 6 → okE [6] (45 + i) 5 0 = true) i hi) b w
theorem sI_6_t_5 (b : Nat) (w : WD) {i : Nat} (hi : i < 6) (v : Int32) : sI [6] 5 (mk b w) (b + (45 + i)) v = some (mk b (uI w (45 + i) 5 v)) := sI_mk ((by decide +kernel : ∀ i, i < 6 → okE [6] (45 + i) 5 0 = true) i hi) b w v
theorem uI_rd (w : WD) (j k : Nat) (v : Int32) (j2 k2 : Nat) : (uI w j k v).1 j2 k2 = if j2 = j ∧ k2 = k then v else w.1 j2 k2 := rfl
theorem uI_A (w : WD) (j k : Nat) (v : Int32) : (uI w j k v).2 = w.2 := rfl
theorem uA_I (w : WD) (j : Nat) (f : Nat → Int32) : (uA w j f).1 = w.1 := rfl
theorem uA_rd (w : WD) (j : Nat) (f : Nat → Int32) (j2 : Nat) : (uA w j f).2.1 j2 = if j2 = j then f else w.2.1 j2 := rfl
theorem uA_L (w : WD) (j : Nat) (f : Nat → Int32) : (uA w j f).2.2 = w.2.2 := rfl
theorem uL_I (w : WD) (j : Nat) (f : Nat → Int64) : (uL w j f).1 = w.1 := rfl
theorem uL_A (w : WD) (j : Nat) (f : Nat → Int64) : (uL w j f).2.1 = w.2.1 := rfl
theorem uL_rd (w : WD) (j : Nat) (f : Nat → Int64) (j2 : Nat) : (uL w j f).2.2.1 j2 = if j2 = j then f else w.2.2.1 j2 := rfl
theorem uL_S (w : WD) (j : Nat) (f : Nat → Int64) : (uL w j f).2.2.2 = w.2.2.2 := rfl
