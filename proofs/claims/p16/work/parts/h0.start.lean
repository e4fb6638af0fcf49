/-! THE START: groups of the cells, the constructors' run -/
noncomputable def tt_g : zT Nat 10 := (yn (yn (yn (yn (yn (yn (yn (yn (yn (yn ye (yl 14)) (yn (yl 17) (yl 18))) (yn (yn (yl 12) (yl 13)) (yn (yl 19) (yl 8)))) (yn (yn (yn (yl 1) (yl 12)) (yn (yl 18) (yl 19))) (yn (yn (yl 13) (yl 17)) (yn (yl 8) (yl 2))))) (yn (yn (yn (yn (yl 10) (yl 1)) (yn (yl 2) (yl 12))) (yn (yn (yl 19) (yl 8)) (yn (yl 13) (yl 17)))) (yn (yn (yn (yl 18) (yl 19)) (yn (yl 12) (yl 13))) (yn (yn (yl 8) (yl 2)) (yn (yl 17) (yl 24)))))) (yn (yn (yn (yn (yn (yl 4) (yl 10)) (yn (yl 19) (yl 8))) (yn (yn (yl 17) (yl 18)) (yn (yl 2) (yl 12)))) (yn (yn (yn (yl 13) (yl 17)) (yn (yl 8) (yl 2))) (yn (yn (yl 18) (yl 19)) (yn (yl 12) (yl 13))))) (yn (yn (yn (yn (yl 14) (yl 8)) (yn (yl 13) (yl 17))) (yn (yn (yl 2) (yl 12)) (yn (yl 18) (yl 19)))) (yn (yn (yn (yl 8) (yl 2)) (yn (yl 17) (yl 18))) (yn (yn (yl 12) (yl 13)) (yn (yl 18) ye)))))) (yn (yn (yn (yn (yn (yn (yl 18) (yl 14)) (yn (yl 18) (yl 19))) (yn (yn (yl 13) (yl 17)) (yn (yl 8) (yl 2)))) (yn (yn (yn (yl 12) (yl 13)) (yn (yl 19) (yl 8))) (yn (yn (yl 17) (yl 18)) (yn (yl 2) (yl 12))))) (yn (yn (yn (yn (yl 14) (yl 1)) (yn (yl 12) (yl 13))) (yn (yn (yl 8) (yl 2)) (yn (yl 17) (yl 18)))) (yn (yn (yn (yl 19) (yl 8)) (yn (yl 13) (yl 17))) (yn (yn (yl 2) (yl 12)) (yn (yl 18) ye))))) (yn (yn (yn (yn (yn (yl 14) (yl 14)) (yn (yl 8) (yl 2))) (yn (yn (yl 18) (yl 19)) (yn (yl 12) (yl 13)))) (yn (yn (yn (yl 17) (yl 18)) (yn (yl 2) (yl 12))) (yn (yn (yl 19) (yl 8)) (yn (yl 13) (yl 31))))) (yn (yn (yn (yn (yl 1) (yl 2)) (yn (yl 17) (yl 18))) (yn (yn (yl 12) (yl 13)) (yn (yl 19) (yl 8)))) (yn (yn (yn (yl 2) (yl 12)) (yn (yl 18) (yl 19))) (yn (yn (yl 13) (yl 17)) (yn (yl 18) ye))))))) (yn (yn (yn (yn (yn (yn (yn (yl 2) (yl 10)) (yn (yl 2) (yl 12))) (yn (yn (yl 19) (yl 8)) (yn (yl 13) (yl 17)))) (yn (yn (yn (yl 1) (yl 19)) (yn (yl 12) (yl 13))) (yn (yn (yl 8) (yl 2)) (yn (yl 17) (yl 18))))) (yn (yn (yn (yn (yl 14) (yl 1)) (yn (yl 18) (yl 19))) (yn (yn (yl 13) (yl 17)) (yn (yl 8) (yl 2)))) (yn (yn (yn (yl 12) (yl 13)) (yn (yl 19) (yl 8))) (yn (yn (yl 17) (yl 18)) (yn (yl 2) (yl 37)))))) (yn (yn (yn (yn (yn (yl 10) (yl 14)) (yn (yl 13) (yl 17))) (yn (yn (yl 2) (yl 12)) (yn (yl 18) (yl 19)))) (yn (yn (yn (yl 8) (yl 2)) (yn (yl 17) (yl 18))) (yn (yn (yl 12) (yl 13)) (yn (yl 19) (yl 22))))) (yn (yn (yn (yn (yl 1) (yl 17)) (yn (yl 8) (yl 2))) (yn (yn (yl 18) (yl 19)) (yn (yl 12) (yl 13)))) (yn (yn (yn (yl 17) (yl 18)) (yn (yl 2) (yl 12))) (yn (yn (yl 19) (yl 8)) (yn (yl 3) ye)))))) (yn (yn (yn (yn (yn (yn (yl 14) (yl 14)) (yn (yl 12) (yl 13))) (yn (yn (yl 8) (yl 2)) (yn (yl 17) (yl 18)))) (yn (yn (yn (yl 19) (yl 8)) (yn (yl 13) (yl 17))) (yn (yn (yl 2) (yl 12)) (yn (yl 18) (yl 19))))) (yn (yn (yn (yn (yl 10) (yl 1)) (yn (yl 19) (yl 8))) (yn (yn (yl 17) (yl 18)) (yn (yl 2) (yl 12)))) (yn (yn (yn (yl 13) (yl 17)) (yn (yl 8) (yl 2))) (yn (yn (yl 18) (yl 19)) (yn (yl 2) ye))))) (yn (yn (yn (yn (yn (yl 14) (yl 1)) (yn (yl 17) (yl 18))) (yn (yn (yl 12) (yl 13)) (yn (yl 19) (yl 8)))) (yn (yn (yn (yl 2) (yl 12)) (yn (yl 18) (yl 19))) (yn (yn (yl 13) (yl 17)) (yn (yl 8) (yl 30))))) (yn (yn (yn (yn (yl 1) (yl 18)) (yn (yl 2) (yl 12))) (yn (yn (yl 19) (yl 8)) (yn (yl 13) (yl 17)))) (yn (yn (yn (yl 18) (yl 19)) (yn (yl 12) (yl 13))) (yn (yn (yl 8) (yl 2)) (yn (yl 5) ye)))))))) (yn (yn (yn (yn (yn (yn (yn (yn (yl 16) (yl 14)) (yn (yl 19) (yl 8))) (yn (yn (yl 17) (yl 18)) (yn (yl 2) (yl 12)))) (yn (yn (yn (yl 1) (yl 17)) (yn (yl 8) (yl 2))) (yn (yn (yl 18) (yl 19)) (yn (yl 12) (yl 13))))) (yn (yn (yn (yn (yl 14) (yl 1)) (yn (yl 13) (yl 17))) (yn (yn (yl 2) (yl 12)) (yn (yl 18) (yl 19)))) (yn (yn (yn (yl 8) (yl 2)) (yn (yl 17) (yl 18))) (yn (yn (yl 12) (yl 13)) (yn (yl 19) (yl 28)))))) (yn (yn (yn (yn (yn (yl 5) (yl 14)) (yn (yl 2) (yl 12))) (yn (yn (yl 19) (yl 8)) (yn (yl 13) (yl 17)))) (yn (yn (yn (yl 18) (yl 19)) (yn (yl 12) (yl 13))) (yn (yn (yl 8) (yl 2)) (yn (yl 17) (yl 18))))) (yn (yn (yn (yn (yl 1) (yl 12)) (yn (yl 18) (yl 19))) (yn (yn (yl 13) (yl 17)) (yn (yl 8) (yl 2)))) (yn (yn (yn (yl 12) (yl 13)) (yn (yl 19) (yl 8))) (yn (yn (yl 17) (yl 18)) (yn (yl 21) ye)))))) (yn (yn (yn (yn (yn (yn (yl 10) (yl 10)) (yn (yl 8) (yl 2))) (yn (yn (yl 18) (yl 19)) (yn (yl 12) (yl 13)))) (yn (yn (yn (yl 17) (yl 18)) (yn (yl 2) (yl 12))) (yn (yn (yl 19) (yl 8)) (yn (yl 13) (yl 17))))) (yn (yn (yn (yn (yl 14) (yl 1)) (yn (yl 17) (yl 18))) (yn (yn (yl 12) (yl 13)) (yn (yl 19) (yl 8)))) (yn (yn (yn (yl 2) (yl 12)) (yn (yl 18) (yl 19))) (yn (yn (yl 13) (yl 17)) (yn (yl 20) ye))))) (yn (yn (yn (yn (yn (yl 10) (yl 14)) (yn (yl 12) (yl 13))) (yn (yn (yl 8) (yl 2)) (yn (yl 17) (yl 18)))) (yn (yn (yn (yl 19) (yl 8)) (yn (yl 13) (yl 17))) (yn (yn (yl 2) (yl 12)) (yn (yl 18) (yl 35))))) (yn (yn (yn (yn (yl 1) (yl 13)) (yn (yl 19) (yl 8))) (yn (yn (yl 17) (yl 18)) (yn (yl 2) (yl 12)))) (yn (yn (yn (yl 13) (yl 17)) (yn (yl 8) (yl 2))) (yn (yn (yl 18) (yl 19)) (yn (yl 4) ye))))))) (yn (yn (yn (yn (yn (yn (yn (yl 13) (yl 14)) (yn (yl 13) (yl 17))) (yn (yn (yl 2) (yl 12)) (yn (yl 18) (yl 19)))) (yn (yn (yn (yl 8) (yl 2)) (yn (yl 17) (yl 18))) (yn (yn (yl 12) (yl 13)) (yn (yl 19) (yl 8))))) (yn (yn (yn (yn (yl 10) (yl 1)) (yn (yl 8) (yl 2))) (yn (yn (yl 18) (yl 19)) (yn (yl 12) (yl 13)))) (yn (yn (yn (yl 17) (yl 18)) (yn (yl 2) (yl 12))) (yn (yn (yl 19) (yl 8)) (yn (yl 13) (yl 40)))))) (yn (yn (yn (yn (yn (yl 14) (yl 10)) (yn (yl 18) (yl 19))) (yn (yn (yl 13) (yl 17)) (yn (yl 8) (yl 2)))) (yn (yn (yn (yl 12) (yl 13)) (yn (yl 19) (yl 8))) (yn (yn (yl 17) (yl 18)) (yn (yl 2) (yl 27))))) (yn (yn (yn (yn (yl 1) (yl 19)) (yn (yl 12) (yl 13))) (yn (yn (yl 8) (yl 2)) (yn (yl 17) (yl 18)))) (yn (yn (yn (yl 19) (yl 8)) (yn (yl 13) (yl 17))) (yn (yn (yl 2) (yl 12)) (yn (yl 13) ye)))))) (yn (yn (yn (yn (yn (yn (yl 14) (yl 14)) (yn (yl 17) (yl 18))) (yn (yn (yl 12) (yl 13)) (yn (yl 19) (yl 8)))) (yn (yn (yn (yl 2) (yl 12)) (yn (yl 18) (yl 19))) (yn (yn (yl 13) (yl 17)) (yn (yl 8) (yl 2))))) (yn (yn (yn (yn (yl 14) (yl 1)) (yn (yl 2) (yl 12))) (yn (yn (yl 19) (yl 8)) (yn (yl 13) (yl 17)))) (yn (yn (yn (yl 18) (yl 19)) (yn (yl 12) (yl 13))) (yn (yn (yl 8) (yl 2)) (yn (yl 13) ye))))) (yn (yn (yn (yn (yn (yl 14) (yl 1)) (yn (yl 19) (yl 8))) (yn (yn (yl 17) (yl 18)) (yn (yl 2) (yl 12)))) (yn (yn (yn (yl 13) (yl 17)) (yn (yl 8) (yl 2))) (yn (yn (yl 18) (yl 19)) (yn (yl 12) (yl 26))))) (yn (yn (yn (yn (yl 1) (yl 8)) (yn (yl 13) (yl 17))) (yn (yn (yl 2) (yl 12)) (yn (yl 18) (yl 19)))) (yn (yn (yn (yl 8) (yl 2)) (yn (yl 17) (yl 18))) (yn (yn (yl 12) (yl 13)) (yn (yl 10) ye))))))))) (yn (yn (yn (yn (yn (yn (yn (yn (yn (yl 15) (yl 14)) (yn (yl 18) (yl 19))) (yn (yn (yl 13) (yl 17)) (yn (yl 8) (yl 2)))) (yn (yn (yn (yl 1) (yl 13)) (yn (yl 19) (yl 8))) (yn (yn (yl 17) (yl 18)) (yn (yl 2) (yl 12))))) (yn (yn (yn (yn (yl 11) (yl 1)) (yn (yl 12) (yl 13))) (yn (yn (yl 8) (yl 2)) (yn (yl 17) (yl 18)))) (yn (yn (yn (yl 19) (yl 8)) (yn (yl 13) (yl 17))) (yn (yn (yl 2) (yl 12)) (yn (yl 18) (yl 33)))))) (yn (yn (yn (yn (yn (yl 7) (yl 11)) (yn (yl 8) (yl 2))) (yn (yn (yl 18) (yl 19)) (yn (yl 12) (yl 13)))) (yn (yn (yn (yl 17) (yl 18)) (yn (yl 2) (yl 12))) (yn (yn (yl 19) (yl 8)) (yn (yl 13) (yl 17))))) (yn (yn (yn (yn (yl 14) (yl 2)) (yn (yl 17) (yl 18))) (yn (yn (yl 12) (yl 13)) (yn (yl 19) (yl 8)))) (yn (yn (yn (yl 2) (yl 12)) (yn (yl 18) (yl 19))) (yn (yn (yl 13) (yl 17)) (yn (yl 19) ye)))))) (yn (yn (yn (yn (yn (yn (yl 19) (yl 14)) (yn (yl 19) (yl 8))) (yn (yn (yl 17) (yl 18)) (yn (yl 2) (yl 12)))) (yn (yn (yn (yl 13) (yl 17)) (yn (yl 8) (yl 2))) (yn (yn (yl 18) (yl 19)) (yn (yl 12) (yl 13))))) (yn (yn (yn (yn (yl 14) (yl 1)) (yn (yl 13) (yl 17))) (yn (yn (yl 2) (yl 12)) (yn (yl 18) (yl 19)))) (yn (yn (yn (yl 8) (yl 2)) (yn (yl 17) (yl 18))) (yn (yn (yl 12) (yl 13)) (yn (yl 19) ye))))) (yn (yn (yn (yn (yn (yl 14) (yl 14)) (yn (yl 2) (yl 12))) (yn (yn (yl 19) (yl 8)) (yn (yl 13) (yl 17)))) (yn (yn (yn (yl 18) (yl 19)) (yn (yl 12) (yl 13))) (yn (yn (yl 8) (yl 2)) (yn (yl 17) (yl 39))))) (yn (yn (yn (yn (yl 1) (yl 12)) (yn (yl 18) (yl 19))) (yn (yn (yl 13) (yl 17)) (yn (yl 8) (yl 2)))) (yn (yn (yn (yl 12) (yl 13)) (yn (yl 19) (yl 8))) (yn (yn (yl 17) (yl 18)) (yn (yl 19) ye))))))) (yn (yn (yn (yn (yn (yn (yn (yl 12) (yl 11)) (yn (yl 12) (yl 13))) (yn (yn (yl 8) (yl 2)) (yn (yl 17) (yl 18)))) (yn (yn (yn (yl 1) (yl 8)) (yn (yl 13) (yl 17))) (yn (yn (yl 2) (yl 12)) (yn (yl 18) (yl 19))))) (yn (yn (yn (yn (yl 14) (yl 1)) (yn (yl 19) (yl 8))) (yn (yn (yl 17) (yl 18)) (yn (yl 2) (yl 12)))) (yn (yn (yn (yl 13) (yl 17)) (yn (yl 8) (yl 2))) (yn (yn (yl 18) (yl 19)) (yn (yl 12) (yl 34)))))) (yn (yn (yn (yn (yn (yl 11) (yl 14)) (yn (yl 17) (yl 18))) (yn (yn (yl 12) (yl 13)) (yn (yl 19) (yl 8)))) (yn (yn (yn (yl 2) (yl 12)) (yn (yl 18) (yl 19))) (yn (yn (yl 13) (yl 17)) (yn (yl 8) (yl 38))))) (yn (yn (yn (yn (yl 1) (yl 18)) (yn (yl 2) (yl 12))) (yn (yn (yl 19) (yl 8)) (yn (yl 13) (yl 17)))) (yn (yn (yn (yl 18) (yl 19)) (yn (yl 12) (yl 13))) (yn (yn (yl 8) (yl 2)) (yn (yl 12) ye)))))) (yn (yn (yn (yn (yn (yn (yl 14) (yl 14)) (yn (yl 13) (yl 17))) (yn (yn (yl 2) (yl 12)) (yn (yl 18) (yl 19)))) (yn (yn (yn (yl 8) (yl 2)) (yn (yl 17) (yl 18))) (yn (yn (yl 12) (yl 13)) (yn (yl 19) (yl 8))))) (yn (yn (yn (yn (yl 11) (yl 1)) (yn (yl 8) (yl 2))) (yn (yn (yl 18) (yl 19)) (yn (yl 12) (yl 13)))) (yn (yn (yn (yl 17) (yl 18)) (yn (yl 2) (yl 12))) (yn (yn (yl 19) (yl 8)) (yn (yl 12) ye))))) (yn (yn (yn (yn (yn (yl 14) (yl 1)) (yn (yl 18) (yl 19))) (yn (yn (yl 13) (yl 17)) (yn (yl 8) (yl 2)))) (yn (yn (yn (yl 12) (yl 13)) (yn (yl 19) (yl 8))) (yn (yn (yl 17) (yl 18)) (yn (yl 2) (yl 29))))) (yn (yn (yn (yn (yl 1) (yl 19)) (yn (yl 12) (yl 13))) (yn (yn (yl 8) (yl 2)) (yn (yl 17) (yl 18)))) (yn (yn (yn (yl 19) (yl 8)) (yn (yl 13) (yl 17))) (yn (yn (yl 2) (yl 12)) (yn (yl 6) ye)))))))) (yn (yn (yn (yn (yn (yn (yn (yn (yl 8) (yl 14)) (yn (yl 8) (yl 2))) (yn (yn (yl 18) (yl 19)) (yn (yl 12) (yl 13)))) (yn (yn (yn (yl 1) (yl 18)) (yn (yl 2) (yl 12))) (yn (yn (yl 19) (yl 8)) (yn (yl 13) (yl 17))))) (yn (yn (yn (yn (yl 14) (yl 1)) (yn (yl 17) (yl 18))) (yn (yn (yl 12) (yl 13)) (yn (yl 19) (yl 8)))) (yn (yn (yn (yl 2) (yl 12)) (yn (yl 18) (yl 19))) (yn (yn (yl 13) (yl 17)) (yn (yl 8) (yl 23)))))) (yn (yn (yn (yn (yn (yl 6) (yl 14)) (yn (yl 12) (yl 13))) (yn (yn (yl 8) (yl 2)) (yn (yl 17) (yl 18)))) (yn (yn (yn (yl 19) (yl 8)) (yn (yl 13) (yl 17))) (yn (yn (yl 2) (yl 12)) (yn (yl 18) (yl 19))))) (yn (yn (yn (yn (yl 1) (yl 13)) (yn (yl 19) (yl 8))) (yn (yn (yl 17) (yl 18)) (yn (yl 2) (yl 12)))) (yn (yn (yn (yl 13) (yl 17)) (yn (yl 8) (yl 2))) (yn (yn (yl 18) (yl 19)) (yn (yl 9) ye)))))) (yn (yn (yn (yn (yn (yn (yl 11) (yl 11)) (yn (yl 2) (yl 12))) (yn (yn (yl 19) (yl 8)) (yn (yl 13) (yl 17)))) (yn (yn (yn (yl 18) (yl 19)) (yn (yl 12) (yl 13))) (yn (yn (yl 8) (yl 2)) (yn (yl 17) (yl 18))))) (yn (yn (yn (yn (yl 14) (yl 1)) (yn (yl 18) (yl 19))) (yn (yn (yl 13) (yl 17)) (yn (yl 8) (yl 2)))) (yn (yn (yn (yl 12) (yl 13)) (yn (yl 19) (yl 8))) (yn (yn (yl 17) (yl 18)) (yn (yl 8) ye))))) (yn (yn (yn (yn (yn (yl 11) (yl 14)) (yn (yl 13) (yl 17))) (yn (yn (yl 2) (yl 12)) (yn (yl 18) (yl 19)))) (yn (yn (yn (yl 8) (yl 2)) (yn (yl 17) (yl 18))) (yn (yn (yl 12) (yl 13)) (yn (yl 19) (yl 36))))) (yn (yn (yn (yn (yl 1) (yl 17)) (yn (yl 8) (yl 2))) (yn (yn (yl 18) (yl 19)) (yn (yl 12) (yl 13)))) (yn (yn (yn (yl 17) (yl 18)) (yn (yl 2) (yl 12))) (yn (yn (yl 19) (yl 8)) (yn (yl 7) ye))))))) (yn (yn (yn (yn (yn (yn (yn (yl 17) (yl 14)) (yn (yl 17) (yl 18))) (yn (yn (yl 12) (yl 13)) (yn (yl 19) (yl 8)))) (yn (yn (yn (yl 2) (yl 12)) (yn (yl 18) (yl 19))) (yn (yn (yl 13) (yl 17)) (yn (yl 8) (yl 2))))) (yn (yn (yn (yn (yl 11) (yl 1)) (yn (yl 2) (yl 12))) (yn (yn (yl 19) (yl 8)) (yn (yl 13) (yl 17)))) (yn (yn (yn (yl 18) (yl 19)) (yn (yl 12) (yl 13))) (yn (yn (yl 8) (yl 2)) (yn (yl 17) ye))))) (yn (yn (yn (yn (yn (yl 14) (yl 11)) (yn (yl 19) (yl 8))) (yn (yn (yl 17) (yl 18)) (yn (yl 2) (yl 12)))) (yn (yn (yn (yl 13) (yl 17)) (yn (yl 8) (yl 2))) (yn (yn (yl 18) (yl 19)) (yn (yl 12) (yl 32))))) (yn (yn (yn (yn (yl 1) (yl 8)) (yn (yl 13) (yl 17))) (yn (yn (yl 2) (yl 12)) (yn (yl 18) (yl 19)))) (yn (yn (yn (yl 8) (yl 2)) (yn (yl 17) (yl 18))) (yn (yn (yl 12) (yl 13)) (yn (yl 17) ye)))))) (yn (yn (yn (yn (yn (yn (yl 14) (yl 14)) (yn (yl 18) (yl 19))) (yn (yn (yl 13) (yl 17)) (yn (yl 8) (yl 2)))) (yn (yn (yn (yl 12) (yl 13)) (yn (yl 19) (yl 8))) (yn (yn (yl 17) (yl 18)) (yn (yl 2) (yl 12))))) (yn (yn (yn (yn (yl 14) (yl 1)) (yn (yl 12) (yl 13))) (yn (yn (yl 8) (yl 2)) (yn (yl 17) (yl 18)))) (yn (yn (yn (yl 19) (yl 8)) (yn (yl 13) (yl 17))) (yn (yn (yl 2) (yl 12)) (yn (yl 17) ye))))) (yn (yn (yn (yn (yn (yl 14) (yl 1)) (yn (yl 8) (yl 2))) (yn (yn (yl 18) (yl 19)) (yn (yl 12) (yl 13)))) (yn (yn (yn (yl 17) (yl 18)) (yn (yl 2) (yl 12))) (yn (yn (yl 19) (yl 8)) (yn (yl 13) (yl 25))))) (yn (yn (yn (yn (yl 1) (yl 2)) (yn (yl 17) (yl 18))) (yn (yn (yl 12) (yl 13)) (yn (yl 19) (yl 8)))) (yn (yn (yn (yl 2) (yl 12)) (yn (yl 18) (yl 19))) (yn (yn (yl 13) (yl 17)) (yn (yl 11) ye))))))))))
noncomputable def tgr (a : Nat) : Nat := match zget 10 tt_g a with
  | some g => g
  | none => 0
noncomputable def sg1 (a : Nat) : Bool := match aSG (tgr a) with
  | none => true
  | some s => Nat.beq a s
noncomputable def sg2 (g : Nat) : Bool := match aSG g with
  | none => true
  | some s => Nat.ble (s + 1) 999 && Nat.beq (tgr s) g
theorem aok_t : aok tgr := by
  refine ⟨fun a ha s hs => ?_, fun g s hs => ?_⟩
  · have h : (List.range 999).all sg1 = true := by decide +kernel
    have h1 := List.all_eq_true.mp h a (List.mem_range.mpr ha)
    unfold sg1 at h1
    rw [hs] at h1
    exact Nat.beq_eq.mp h1
  · by_cases hg : g < 41
    · have h : (List.range 41).all sg2 = true := by decide +kernel
      have h1 := List.all_eq_true.mp h g (List.mem_range.mpr hg)
      unfold sg2 at h1
      rw [hs] at h1
      replace h1 : (Nat.ble (s + 1) 999 && Nat.beq (tgr s) g) = true := h1
      rw [Bool.and_eq_true, Nat.ble_eq, Nat.beq_eq] at h1
      exact h1
    · have h9 : Nat.ble g 40 = false := by
        rw [Bool.eq_false_iff]
        intro h
        have := Nat.le_of_ble_eq_true h
        omega
      unfold aSG at hs
      rw [h9] at hs
      cases hs
/-! the start's check -/
noncomputable def sdp (p : aP) (x : xV) : Bool := bif Nat.beq p.1 0 then Nat.beq x.1 0 && (ile (-1000) x.2.1 && (ile x.2.1 1000 && (ile p.2.2.1 x.2.1 && ile x.2.1 p.2.2.2))) else
  bif Nat.beq p.1 1 then Nat.beq x.1 1 && (ile (-1000) x.2.1 && (ile x.2.1 1000 && (ile p.2.2.1 x.2.1 && ile x.2.1 p.2.2.2))) else
  bif Nat.beq p.1 3 then Nat.beq x.1 3 && (Nat.ble (x.2.1.toNat + 1) 999 && Nat.beq (tgr x.2.1.toNat) p.2.1) else false
noncomputable def sck (w : xW) (a : Nat) : Bool := match zget 11 w.2 a with
  | none => false
  | some c => Nat.beq c.1 (aTG (tgr a)) && (Nat.beq c.2.1 (aLN (tgr a)) && (aSP (tgr a)).all (fun e => (List.range (aLN (tgr a))).all (fun k => !(Nat.ble e.2.1 (k % e.1) && Nat.ble (k % e.1) e.2.2.1) || sdp e.2.2.2 (xget c.2.2.1 c.2.2.2 k))))
/-- an int at a place -/
noncomputable def sci (w : xW) (a k : Nat) : Bool := match zget 11 w.2 a with
  | none => false
  | some c => Nat.ble (k + 1) c.2.1 && (Nat.beq (xget c.2.2.1 c.2.2.2 k).1 0 && ieq (xget c.2.2.1 c.2.2.2 k).2.1 (.ofNat 0))
noncomputable def scv (w : xW) (a k t : Nat) (n : Int) : Bool := match zget 11 w.2 a with
  | none => false
  | some c => Nat.ble (k + 1) c.2.1 && (Nat.beq (xget c.2.2.1 c.2.2.2 k).1 t && ieq (xget c.2.2.1 c.2.2.2 k).2.1 n)
noncomputable def sall (w : xW) : Bool := Nat.beq w.1 999 && ((List.range 999).all (sck w) && (sci w 980 13 && (sci w 980 29 && ((List.range 40).all (sci w 986) && (sci w 988 0 && (sci w 988 1 && (sci w 1 4 && (sci w 980 1 && (scv w 500 0 0 (.ofNat 1) && (scv w 500 1 0 (.ofNat 1) && (scv w 500 2 0 (.ofNat 0) && (scv w 500 3 0 (.ofNat 0) && (scv w 993 0 1 (.ofNat 1) && (scv w 993 1 1 (.ofNat 1) && (scv w 993 2 1 (.ofNat 0) && (scv w 993 3 1 (.ofNat 0)))))))))))))))))
noncomputable def xi1 : Option (List xL) := xrun tM1 4000 201 (0, [(0, (3, .ofNat 0, .ofNat 0))], [], 0, 0) (xnew (0, zemp xC 11) (10, te_10.1, (2, 0, 0), te_10.2)) []
noncomputable def xi2 (w : xW) : Option (List xL) := xrun tM1 4000 202 (0, [(0, (3, .ofNat 980, .ofNat 0))], [], 0, 0) (xnew w (11, te_11.1, (2, 0, 0), te_11.2)) []
noncomputable def xi3 (w : xW) : xW := xnew w (67, 1, (1, .ofNat 0, .ofNat 0), [])
noncomputable def sb2 (q : xL) : Bool := match xi2 q.2.2 with
  | some [r] => Nat.beq r.2.1.1 1 && (Nat.beq r.2.2.1 998 && sall (xi3 r.2.2))
  | _ => false
noncomputable def sb1 : Bool := match xi1 with
  | some [q] => Nat.beq q.2.1.1 1 && (Nat.beq q.2.2.1 980 && sb2 q)
  | _ => false
set_option maxRecDepth 100000 in
theorem sb1_ok : sb1 = true := by decide +kernel
theorem sb_out : ∃ q r : xL, xi1 = some [q] ∧ q.2.1.1 = 1 ∧ q.2.2.1 = 980 ∧ xi2 q.2.2 = some [r] ∧ r.2.1.1 = 1 ∧ r.2.2.1 = 998 ∧ sall (xi3 r.2.2) = true := by
  have h := sb1_ok
  unfold sb1 at h
  match h1 : xi1 with
  | none => rw [h1] at h; cases h
  | some [] => rw [h1] at h; cases h
  | some (_ :: _ :: _) => rw [h1] at h; cases h
  | some [q] =>
    rw [h1] at h
    replace h : (Nat.beq q.2.1.1 1 && (Nat.beq q.2.2.1 980 && sb2 q)) = true := h
    simp only [Bool.and_eq_true, Nat.beq_eq] at h
    obtain ⟨g1, g2, h⟩ := h
    unfold sb2 at h
    match h2 : xi2 q.2.2 with
    | none => rw [h2] at h; cases h
    | some [] => rw [h2] at h; cases h
    | some (_ :: _ :: _) => rw [h2] at h; cases h
    | some [r] =>
      rw [h2] at h
      replace h : (Nat.beq r.2.1.1 1 && (Nat.beq r.2.2.1 998 && sall (xi3 r.2.2))) = true := h
      simp only [Bool.and_eq_true, Nat.beq_eq] at h
      exact ⟨q, r, rfl, g1, g2, h2, h.1, h.2.1, h.2.2⟩
theorem cnd_some' {c a b : Bool} (h : (bif c then a else b) = true) : (c = true ∧ a = true) ∨ (c = false ∧ b = true) := by
  cases c
  · exact Or.inr ⟨rfl, h⟩
  · exact Or.inl ⟨rfl, h⟩
section GS
variable {B b0 L : Nat} {ν : Nat → Int} {w : xW} {u : zW} {lit : Value → Prop}
theorem sdp_ok {p : aP} {x : xV} {v : Value} (h : sdp p x = true) (hd : xden B b0 ν x v) : dP B tgr p v := by
  obtain ⟨k, g, lo, hi⟩ := p
  obtain ⟨xk9, a, a2⟩ := x
  unfold sdp at h
  rcases cnd_some' h with ⟨e, h⟩ | ⟨-, h⟩
  · replace e : k = 0 := Nat.beq_eq.mp e
    subst e
    simp only [Bool.and_eq_true, Nat.beq_eq, ile_iff] at h
    obtain ⟨rfl, h1, h2, h3, h4⟩ := h
    exact ⟨Int32.ofInt a, hd, by rw [toI (by omega)]; exact h3, by rw [toI (by omega)]; exact h4⟩
  rcases cnd_some' h with ⟨e, h⟩ | ⟨-, h⟩
  · replace e : k = 1 := Nat.beq_eq.mp e
    subst e
    simp only [Bool.and_eq_true, Nat.beq_eq, ile_iff] at h
    obtain ⟨rfl, h1, h2, h3, h4⟩ := h
    have e9 : (Int64.ofInt a).toInt = a := Int64.toInt_ofInt_of_le (by omega) (by omega)
    exact ⟨Int64.ofInt a, hd, by rw [e9]; exact h3, by rw [e9]; exact h4⟩
  rcases cnd_some' h with ⟨e, h⟩ | ⟨-, h⟩
  · replace e : k = 3 := Nat.beq_eq.mp e
    subst e
    simp only [Bool.and_eq_true, Nat.beq_eq, Nat.ble_eq] at h
    obtain ⟨rfl, h1, h2⟩ := h
    exact ⟨a.toNat, hd, h1, h2⟩
  · cases h
theorem sck_ok (hw : xdw B b0 ν w u) (h : (List.range 999).all (sck w) = true) (h9 : w.1 = 999) : dI B tgr u := by
  refine ⟨by rw [hw.1, h9]; exact Nat.le_refl _, fun a ha => ?_⟩
  have h1 := List.all_eq_true.mp h a (List.mem_range.mpr ha)
  obtain ⟨c, hc, hd⟩ := hw.2.2 a (by rw [h9]; exact ha)
  unfold sck at h1
  rw [hc] at h1
  replace h1 : (Nat.beq c.1 (aTG (tgr a)) && (Nat.beq c.2.1 (aLN (tgr a)) && (aSP (tgr a)).all (fun e => (List.range (aLN (tgr a))).all (fun k => !(Nat.ble e.2.1 (k % e.1) && Nat.ble (k % e.1) e.2.2.1) || sdp e.2.2.2 (xget c.2.2.1 c.2.2.2 k))))) = true := h1
  simp only [Bool.and_eq_true, Nat.beq_eq] at h1
  obtain ⟨e1, e2, e3⟩ := h1
  refine ⟨by rw [← hd.1]; exact e1, by rw [← hd.2.1]; exact e2, fun k hk e he k1 k2 => ?_⟩
  have h4 := List.all_eq_true.mp (List.all_eq_true.mp e3 e he) k (List.mem_range.mpr hk)
  rw [Bool.or_eq_true, Bool.not_eq_true', Bool.and_eq_false_iff] at h4
  rcases h4 with (g | g) | g
  · rw [Nat.ble_eq.mpr k1] at g; cases g
  · rw [Nat.ble_eq.mpr k2] at g; cases g
  · exact sdp_ok g (hd.2.2 k (by rw [e2]; exact hk))
theorem sci_ok (hw : xdw B b0 ν w u) {a k : Nat} (ha : a < w.1) (h : sci w a k = true) : avl B u a k = .int 0 := by
  obtain ⟨c, hc, hd⟩ := hw.2.2 a ha
  unfold sci at h
  rw [hc] at h
  replace h : (Nat.ble (k + 1) c.2.1 && (Nat.beq (xget c.2.2.1 c.2.2.2 k).1 0 && ieq (xget c.2.2.1 c.2.2.2 k).2.1 (.ofNat 0))) = true := h
  simp only [Bool.and_eq_true, Nat.ble_eq, Nat.beq_eq, ieq_iff] at h
  have h9 := hd.2.2 k h.1
  have e9 := xden_0 h9 (show xk 0 (xget c.2.2.1 c.2.2.2 k) = true from by rw [xk, h.2.1]; rfl)
  rw [h.2.2] at e9
  exact e9
theorem scv_ok (hw : xdw B b0 ν w u) {a k t : Nat} {n : Int} (ha : a < w.1) (h : scv w a k t n = true) : (t = 0 → avl B u a k = .int (Int32.ofInt n)) ∧ (t = 1 → avl B u a k = .long (Int64.ofInt n)) := by
  obtain ⟨c, hc, hd⟩ := hw.2.2 a ha
  unfold scv at h
  rw [hc] at h
  replace h : (Nat.ble (k + 1) c.2.1 && (Nat.beq (xget c.2.2.1 c.2.2.2 k).1 t && ieq (xget c.2.2.1 c.2.2.2 k).2.1 n)) = true := h
  simp only [Bool.and_eq_true, Nat.ble_eq, Nat.beq_eq, ieq_iff] at h
  have h9 := hd.2.2 k h.1
  refine ⟨fun e => ?_, fun e => ?_⟩
  · have e9 := xden_0 h9 (show xk 0 (xget c.2.2.1 c.2.2.2 k) = true from by rw [xk, h.2.1, e]; rfl)
    rw [h.2.2] at e9
    exact e9
  · have e9 := xden_1 h9 (show xk 1 (xget c.2.2.1 c.2.2.2 k) = true from by rw [xk, h.2.1, e]; rfl)
    rw [h.2.2] at e9
    exact e9
theorem start_ok (hw : xdw B b0 ν w u) (h : sall w = true) (hL : L ≤ 5120) : aγ B b0 L tgr lit [(L : Int)] (tz cT_213_0.1) u := by
  unfold sall at h
  simp only [Bool.and_eq_true, Nat.beq_eq] at h
  obtain ⟨h0, h1, h2, h3, h4, h5, h6, h7, h8, w0, w1, w2, w3, w4, w5, w6, w7⟩ := h
  have hd := sck_ok hw h1 h0
  have o1 := sci_ok hw (by omega) h2
  have o2 := sci_ok hw (by omega) h3
  have o3 : ∀ i, i < 40 → avl B u 986 i = .int 0 := fun i hi => sci_ok hw (by omega) (List.all_eq_true.mp h4 i (List.mem_range.mpr hi))
  have o4 := sci_ok hw (by omega) h5
  have o5 := sci_ok hw (by omega) h6
  have o6 := sci_ok hw (by omega) h7
  have o7 := sci_ok hw (by omega) h8
  have p0 := (scv_ok hw (by omega) w0).1 rfl
  have p1 := (scv_ok hw (by omega) w1).1 rfl
  have p2 := (scv_ok hw (by omega) w2).1 rfl
  have p3 := (scv_ok hw (by omega) w3).1 rfl
  have p4 := (scv_ok hw (by omega) w4).2 rfl
  have p5 := (scv_ok hw (by omega) w5).2 rfl
  have p6 := (scv_ok hw (by omega) w6).2 rfl
  have p7 := (scv_ok hw (by omega) w7).2 rfl
  have n01 : ∀ z : Int32, (Value.int 0 = .int z → z = 0) := fun z h => (Value.int.inj h).symm
  refine ⟨rfl, ?_, fun f hf => absurd hf List.not_mem_nil, ?_, hd, fun _ h => ?_, fun _ h => ?_, fun i hi h => ?_, fun _ c hc r hr => ?_, fun c hc r hr => ?_, 0, rfl, fun i hi => ?_⟩
  · intro q hq
    rcases List.mem_cons.mp hq with rfl | hq
    · exact ⟨(L : Int), rfl, by show (0 : Int) ≤ (L : Int); omega, by show (L : Int) ≤ 5120; omega⟩
    · exact absurd hq List.not_mem_nil
  · intro q hq
    rcases List.mem_cons.mp hq with rfl | hq
    · exact ⟨1, 4, rfl, rfl, by decide, by decide +kernel, by decide +kernel, 0, rfl, o6, by decide, by decide⟩
    rcases List.mem_cons.mp hq with rfl | hq
    · exact ⟨980, 1, rfl, rfl, by decide, by decide +kernel, by decide +kernel, 0, rfl, o7, by decide, by decide⟩
    rcases List.mem_cons.mp hq with rfl | hq
    · exact ⟨500, 0, rfl, rfl, by decide, by decide +kernel, by decide +kernel, 1, rfl, p0, by decide, by decide⟩
    rcases List.mem_cons.mp hq with rfl | hq
    · exact ⟨500, 1, rfl, rfl, by decide, by decide +kernel, by decide +kernel, 1, rfl, p1, by decide, by decide⟩
    rcases List.mem_cons.mp hq with rfl | hq
    · exact ⟨500, 2, rfl, rfl, by decide, by decide +kernel, by decide +kernel, 0, rfl, p2, by decide, by decide⟩
    rcases List.mem_cons.mp hq with rfl | hq
    · exact ⟨500, 3, rfl, rfl, by decide, by decide +kernel, by decide +kernel, 0, rfl, p3, by decide, by decide⟩
    rcases List.mem_cons.mp hq with rfl | hq
    · exact ⟨993, 0, rfl, rfl, by decide, by decide +kernel, by decide +kernel, 1, rfl, p4, by decide, by decide⟩
    rcases List.mem_cons.mp hq with rfl | hq
    · exact ⟨993, 1, rfl, rfl, by decide, by decide +kernel, by decide +kernel, 1, rfl, p5, by decide, by decide⟩
    rcases List.mem_cons.mp hq with rfl | hq
    · exact ⟨993, 2, rfl, rfl, by decide, by decide +kernel, by decide +kernel, 0, rfl, p6, by decide, by decide⟩
    rcases List.mem_cons.mp hq with rfl | hq
    · exact ⟨993, 3, rfl, rfl, by decide, by decide +kernel, by decide +kernel, 0, rfl, p7, by decide, by decide⟩
    · exact absurd hq List.not_mem_nil
  · have e := o1.symm.trans h
    exact absurd (Value.int.inj e) (by decide)
  · have e := o2.symm.trans h
    exact absurd (Value.int.inj e) (by decide)
  · have e := (o3 i hi).symm.trans h
    exact absurd (Value.int.inj e) (by decide)
  · have e := n01 c (o4.symm.trans hc)
    subst e
    exact absurd hr (by show ¬ (r : Int) < 0; omega)
  · have e := n01 c (o5.symm.trans hc)
    subst e
    exact absurd hr (by show ¬ (r : Int) < 0; omega)
  · exact absurd hi (by omega)
end GS
