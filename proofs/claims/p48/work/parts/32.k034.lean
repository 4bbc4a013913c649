def zym96 : Nat := 21739857325218978463394402678560151156011129329729828067427207327364959934613876965001142397294821927632088417612646181547755021744364740610505318750894402434128346027092033555518903661374049618451458039625798579485912199020196325754610497257714062006742893904040249061399904540875804047227748405849569924071167594281319047894854261217235964164640997738717437740918194519322958525351877135224143393570237626108012308795336396849904382501357852655458841472138690150710623312536806704449371549656583451099382911239038530724470844442279945810490246682734287088170723598172991232141096002018661707412668875848061310605771756599722946610002733382323408638990075756255950932926693233979678731220914312571331685496445113423544895491173665228635626713231293750195017247323436855274962713554910642850243720798379294443213597134732483310713345761213077418739012653839970924198972036399500869981657146073308323234485137400659757503855049593564857222178893188366071602853505203871067657204475216435239557122995552438955664237349297266607104396234539786174910279254145166897447368260267230184545537625712689612667281313925490144927369809476702097356957633284497152614560495703295853716316165790935228437380165562421433550881036917618085404505545683800016491975779610020145459088070720922496810332681692395534426428127136101146627423399349146652647852455618044307405876456071009249106584635417494864240664035740829494009843575434710805219708852252895782796293160147883333363211681624207640502355045458786027898707479184843613136068267962932211592138916480394880192669525322572434861662853738158120392169814450072043894425605053087744
noncomputable def zyh851 : zH := (126, [zyr0, zyr1, zyr2, zyr3, zyr4, zyr5, zyr6, zyr7], zym96)
noncomputable def zyc744 : zC := .inr (3, [zyv106, zyv107, zyv108, zyv109, zyv314, zyv128, zyv29, zyv15, zyv36])
noncomputable def zyr671 : List zC := [zyc46, zyc46, zyc47, zyc744, zyc10, zyc11, zyc10, zyc12, zyc49, zyc14, zyc15, zyc50, zyc14, zyc15, zyc51, zyc52]
noncomputable def zyh852 : zH := (126, [zyr0, zyr1, zyr2, zyr3, zyr4, zyr671, zyr6, zyr7], zym96)
noncomputable def zyc745 : zC := .inr (3, [zyv106, zyv107, zyv108, zyv109, zyv356, zyv36, zyv29, zyv15, zyv36])
noncomputable def zyr672 : List zC := [zyc46, zyc46, zyc47, zyc745, zyc10, zyc11, zyc10, zyc12, zyc49, zyc14, zyc15, zyc50, zyc14, zyc15, zyc51, zyc52]
noncomputable def zyh853 : zH := (126, [zyr0, zyr1, zyr2, zyr3, zyr4, zyr672, zyr6, zyr7], zym96)
noncomputable def zyc746 : zC := .inr (3, [zyv106, zyv107, zyv108, zyv109, zyv355, zyv422, zyv29, zyv15, zyv36])
noncomputable def zyr673 : List zC := [zyc46, zyc46, zyc47, zyc746, zyc10, zyc11, zyc10, zyc12, zyc49, zyc14, zyc15, zyc50, zyc14, zyc15, zyc51, zyc52]
noncomputable def zyh854 : zH := (126, [zyr0, zyr1, zyr2, zyr3, zyr4, zyr673, zyr6, zyr7], zym96)
noncomputable def zyc747 : zC := .inr (3, [zyv106, zyv107, zyv108, zyv109, zyv354, zyv428, zyv29, zyv15, zyv36])
noncomputable def zyr674 : List zC := [zyc46, zyc46, zyc47, zyc747, zyc10, zyc11, zyc10, zyc12, zyc49, zyc14, zyc15, zyc50, zyc14, zyc15, zyc51, zyc52]
noncomputable def zyh855 : zH := (126, [zyr0, zyr1, zyr2, zyr3, zyr4, zyr674, zyr6, zyr7], zym96)
noncomputable def zyc748 : zC := .inr (3, [zyv106, zyv107, zyv108, zyv109, zyv353, zyv29, zyv29, zyv15, zyv36])
noncomputable def zyr675 : List zC := [zyc46, zyc46, zyc47, zyc748, zyc10, zyc11, zyc10, zyc12, zyc49, zyc14, zyc15, zyc50, zyc14, zyc15, zyc51, zyc52]
noncomputable def zyh856 : zH := (126, [zyr0, zyr1, zyr2, zyr3, zyr4, zyr675, zyr6, zyr7], zym96)
noncomputable def zyc749 : zC := .inr (3, [zyv106, zyv107, zyv108, zyv109, zyv352, zyv427, zyv29, zyv15, zyv36])
noncomputable def zyr676 : List zC := [zyc46, zyc46, zyc47, zyc749, zyc10, zyc11, zyc10, zyc12, zyc49, zyc14, zyc15, zyc50, zyc14, zyc15, zyc51, zyc52]
noncomputable def zyh857 : zH := (126, [zyr0, zyr1, zyr2, zyr3, zyr4, zyr676, zyr6, zyr7], zym96)
noncomputable def zyc750 : zC := .inr (3, [zyv106, zyv107, zyv108, zyv109, zyv351, zyv426, zyv29, zyv15, zyv36])
noncomputable def zyr677 : List zC := [zyc46, zyc46, zyc47, zyc750, zyc10, zyc11, zyc10, zyc12, zyc49, zyc14, zyc15, zyc50, zyc14, zyc15, zyc51, zyc52]
noncomputable def zyh858 : zH := (126, [zyr0, zyr1, zyr2, zyr3, zyr4, zyr677, zyr6, zyr7], zym96)
noncomputable def zyc751 : zC := .inr (3, [zyv106, zyv107, zyv108, zyv109, zyv350, zyv101, zyv29, zyv15, zyv36])
noncomputable def zyr678 : List zC := [zyc46, zyc46, zyc47, zyc751, zyc10, zyc11, zyc10, zyc12, zyc49, zyc14, zyc15, zyc50, zyc14, zyc15, zyc51, zyc52]
noncomputable def zyh859 : zH := (126, [zyr0, zyr1, zyr2, zyr3, zyr4, zyr678, zyr6, zyr7], zym96)
noncomputable def zyc752 : zC := .inr (3, [zyv106, zyv107, zyv108, zyv109, zyv349, zyv25, zyv29, zyv15, zyv36])
noncomputable def zyr679 : List zC := [zyc46, zyc46, zyc47, zyc752, zyc10, zyc11, zyc10, zyc12, zyc49, zyc14, zyc15, zyc50, zyc14, zyc15, zyc51, zyc52]
noncomputable def zyh860 : zH := (126, [zyr0, zyr1, zyr2, zyr3, zyr4, zyr679, zyr6, zyr7], zym96)
noncomputable def zyc753 : zC := .inr (3, [zyv106, zyv107, zyv108, zyv109, zyv348, zyv27, zyv29, zyv15, zyv36])
noncomputable def zyr680 : List zC := [zyc46, zyc46, zyc47, zyc753, zyc10, zyc11, zyc10, zyc12, zyc49, zyc14, zyc15, zyc50, zyc14, zyc15, zyc51, zyc52]
noncomputable def zyh861 : zH := (126, [zyr0, zyr1, zyr2, zyr3, zyr4, zyr680, zyr6, zyr7], zym96)
def zyv429 : zAV := .inl ((.ofNat 0, .ofNat 10), none)
noncomputable def zyc754 : zC := .inr (3, [zyv106, zyv107, zyv108, zyv109, zyv347, zyv429, zyv29, zyv15, zyv36])
noncomputable def zyr681 : List zC := [zyc46, zyc46, zyc47, zyc754, zyc10, zyc11, zyc10, zyc12, zyc49, zyc14, zyc15, zyc50, zyc14, zyc15, zyc51, zyc52]
noncomputable def zyh862 : zH := (126, [zyr0, zyr1, zyr2, zyr3, zyr4, zyr681, zyr6, zyr7], zym96)
noncomputable def zyc755 : zC := .inr (3, [zyv106, zyv107, zyv108, zyv109, zyv346, zyv47, zyv29, zyv15, zyv36])
noncomputable def zyr682 : List zC := [zyc46, zyc46, zyc47, zyc755, zyc10, zyc11, zyc10, zyc12, zyc49, zyc14, zyc15, zyc50, zyc14, zyc15, zyc51, zyc52]
noncomputable def zyh863 : zH := (126, [zyr0, zyr1, zyr2, zyr3, zyr4, zyr682, zyr6, zyr7], zym96)
noncomputable def zyc756 : zC := .inr (3, [zyv106, zyv107, zyv108, zyv109, zyv345, zyv13, zyv29, zyv15, zyv36])
noncomputable def zyr683 : List zC := [zyc46, zyc46, zyc47, zyc756, zyc10, zyc11, zyc10, zyc12, zyc49, zyc14, zyc15, zyc50, zyc14, zyc15, zyc51, zyc52]
noncomputable def zyh864 : zH := (126, [zyr0, zyr1, zyr2, zyr3, zyr4, zyr683, zyr6, zyr7], zym96)
def zyv430 : zAV := .inl ((.ofNat 0, .ofNat 13), none)
noncomputable def zyc757 : zC := .inr (3, [zyv106, zyv107, zyv108, zyv109, zyv344, zyv430, zyv29, zyv15, zyv36])
noncomputable def zyr684 : List zC := [zyc46, zyc46, zyc47, zyc757, zyc10, zyc11, zyc10, zyc12, zyc49, zyc14, zyc15, zyc50, zyc14, zyc15, zyc51, zyc52]
noncomputable def zyh865 : zH := (126, [zyr0, zyr1, zyr2, zyr3, zyr4, zyr684, zyr6, zyr7], zym96)
def zyv431 : zAV := .inl ((.ofNat 0, .ofNat 14), none)
noncomputable def zyc758 : zC := .inr (3, [zyv106, zyv107, zyv108, zyv109, zyv343, zyv431, zyv29, zyv15, zyv36])
noncomputable def zyr685 : List zC := [zyc46, zyc46, zyc47, zyc758, zyc10, zyc11, zyc10, zyc12, zyc49, zyc14, zyc15, zyc50, zyc14, zyc15, zyc51, zyc52]
noncomputable def zyh866 : zH := (126, [zyr0, zyr1, zyr2, zyr3, zyr4, zyr685, zyr6, zyr7], zym96)
def zyv432 : zAV := .inl ((.ofNat 0, .ofNat 15), none)
noncomputable def zyc759 : zC := .inr (3, [zyv106, zyv107, zyv108, zyv109, zyv342, zyv432, zyv29, zyv15, zyv36])
noncomputable def zyr686 : List zC := [zyc46, zyc46, zyc47, zyc759, zyc10, zyc11, zyc10, zyc12, zyc49, zyc14, zyc15, zyc50, zyc14, zyc15, zyc51, zyc52]
noncomputable def zyh867 : zH := (126, [zyr0, zyr1, zyr2, zyr3, zyr4, zyr686, zyr6, zyr7], zym96)
def zyv433 : zAV := .inl ((.ofNat 0, .ofNat 16), none)
noncomputable def zyc760 : zC := .inr (3, [zyv106, zyv107, zyv108, zyv109, zyv341, zyv433, zyv29, zyv15, zyv36])
noncomputable def zyr687 : List zC := [zyc46, zyc46, zyc47, zyc760, zyc10, zyc11, zyc10, zyc12, zyc49, zyc14, zyc15, zyc50, zyc14, zyc15, zyc51, zyc52]
noncomputable def zyh868 : zH := (126, [zyr0, zyr1, zyr2, zyr3, zyr4, zyr687, zyr6, zyr7], zym96)
def zyv434 : zAV := .inl ((.ofNat 0, .ofNat 17), none)
noncomputable def zyc761 : zC := .inr (3, [zyv106, zyv107, zyv108, zyv109, zyv340, zyv434, zyv29, zyv15, zyv36])
noncomputable def zyr688 : List zC := [zyc46, zyc46, zyc47, zyc761, zyc10, zyc11, zyc10, zyc12, zyc49, zyc14, zyc15, zyc50, zyc14, zyc15, zyc51, zyc52]
noncomputable def zyh869 : zH := (126, [zyr0, zyr1, zyr2, zyr3, zyr4, zyr688, zyr6, zyr7], zym96)
def zyv435 : zAV := .inl ((.ofNat 0, .ofNat 18), none)
noncomputable def zyc762 : zC := .inr (3, [zyv106, zyv107, zyv108, zyv109, zyv339, zyv435, zyv29, zyv15, zyv36])
noncomputable def zyr689 : List zC := [zyc46, zyc46, zyc47, zyc762, zyc10, zyc11, zyc10, zyc12, zyc49, zyc14, zyc15, zyc50, zyc14, zyc15, zyc51, zyc52]
noncomputable def zyh870 : zH := (126, [zyr0, zyr1, zyr2, zyr3, zyr4, zyr689, zyr6, zyr7], zym96)
def zyv436 : zAV := .inl ((.ofNat 0, .ofNat 19), none)
noncomputable def zyc763 : zC := .inr (3, [zyv106, zyv107, zyv108, zyv109, zyv338, zyv436, zyv29, zyv15, zyv36])
noncomputable def zyr690 : List zC := [zyc46, zyc46, zyc47, zyc763, zyc10, zyc11, zyc10, zyc12, zyc49, zyc14, zyc15, zyc50, zyc14, zyc15, zyc51, zyc52]
noncomputable def zyh871 : zH := (126, [zyr0, zyr1, zyr2, zyr3, zyr4, zyr690, zyr6, zyr7], zym96)
def zyv437 : zAV := .inl ((.ofNat 0, .ofNat 20), none)
noncomputable def zyc764 : zC := .inr (3, [zyv106, zyv107, zyv108, zyv109, zyv337, zyv437, zyv29, zyv15, zyv36])
noncomputable def zyr691 : List zC := [zyc46, zyc46, zyc47, zyc764, zyc10, zyc11, zyc10, zyc12, zyc49, zyc14, zyc15, zyc50, zyc14, zyc15, zyc51, zyc52]
noncomputable def zyh872 : zH := (126, [zyr0, zyr1, zyr2, zyr3, zyr4, zyr691, zyr6, zyr7], zym96)
def zyv438 : zAV := .inl ((.ofNat 0, .ofNat 21), none)
noncomputable def zyc765 : zC := .inr (3, [zyv106, zyv107, zyv108, zyv109, zyv336, zyv438, zyv29, zyv15, zyv36])
noncomputable def zyr692 : List zC := [zyc46, zyc46, zyc47, zyc765, zyc10, zyc11, zyc10, zyc12, zyc49, zyc14, zyc15, zyc50, zyc14, zyc15, zyc51, zyc52]
noncomputable def zyh873 : zH := (126, [zyr0, zyr1, zyr2, zyr3, zyr4, zyr692, zyr6, zyr7], zym96)
def zyv439 : zAV := .inl ((.ofNat 0, .ofNat 22), none)
noncomputable def zyc766 : zC := .inr (3, [zyv106, zyv107, zyv108, zyv109, zyv335, zyv439, zyv29, zyv15, zyv36])
noncomputable def zyr693 : List zC := [zyc46, zyc46, zyc47, zyc766, zyc10, zyc11, zyc10, zyc12, zyc49, zyc14, zyc15, zyc50, zyc14, zyc15, zyc51, zyc52]
noncomputable def zyh874 : zH := (126, [zyr0, zyr1, zyr2, zyr3, zyr4, zyr693, zyr6, zyr7], zym96)
def zyv440 : zAV := .inl ((.ofNat 0, .ofNat 23), none)
noncomputable def zyc767 : zC := .inr (3, [zyv106, zyv107, zyv108, zyv109, zyv334, zyv440, zyv29, zyv15, zyv36])
noncomputable def zyr694 : List zC := [zyc46, zyc46, zyc47, zyc767, zyc10, zyc11, zyc10, zyc12, zyc49, zyc14, zyc15, zyc50, zyc14, zyc15, zyc51, zyc52]
noncomputable def zyh875 : zH := (126, [zyr0, zyr1, zyr2, zyr3, zyr4, zyr694, zyr6, zyr7], zym96)
def zyv441 : zAV := .inl ((.ofNat 0, .ofNat 24), none)
noncomputable def zyc768 : zC := .inr (3, [zyv106, zyv107, zyv108, zyv109, zyv333, zyv441, zyv29, zyv15, zyv36])
noncomputable def zyr695 : List zC := [zyc46, zyc46, zyc47, zyc768, zyc10, zyc11, zyc10, zyc12, zyc49, zyc14, zyc15, zyc50, zyc14, zyc15, zyc51, zyc52]
noncomputable def zyh876 : zH := (126, [zyr0, zyr1, zyr2, zyr3, zyr4, zyr695, zyr6, zyr7], zym96)
def zyv442 : zAV := .inl ((.ofNat 0, .ofNat 25), none)
noncomputable def zyc769 : zC := .inr (3, [zyv106, zyv107, zyv108, zyv109, zyv332, zyv442, zyv29, zyv15, zyv36])
noncomputable def zyr696 : List zC := [zyc46, zyc46, zyc47, zyc769, zyc10, zyc11, zyc10, zyc12, zyc49, zyc14, zyc15, zyc50, zyc14, zyc15, zyc51, zyc52]
noncomputable def zyh877 : zH := (126, [zyr0, zyr1, zyr2, zyr3, zyr4, zyr696, zyr6, zyr7], zym96)
def zyv443 : zAV := .inl ((.ofNat 0, .ofNat 26), none)
noncomputable def zyc770 : zC := .inr (3, [zyv106, zyv107, zyv108, zyv109, zyv331, zyv443, zyv29, zyv15, zyv36])
noncomputable def zyr697 : List zC := [zyc46, zyc46, zyc47, zyc770, zyc10, zyc11, zyc10, zyc12, zyc49, zyc14, zyc15, zyc50, zyc14, zyc15, zyc51, zyc52]
noncomputable def zyh878 : zH := (126, [zyr0, zyr1, zyr2, zyr3, zyr4, zyr697, zyr6, zyr7], zym96)
def zyv444 : zAV := .inl ((.ofNat 0, .ofNat 27), none)
noncomputable def zyc771 : zC := .inr (3, [zyv106, zyv107, zyv108, zyv109, zyv330, zyv444, zyv29, zyv15, zyv36])
noncomputable def zyr698 : List zC := [zyc46, zyc46, zyc47, zyc771, zyc10, zyc11, zyc10, zyc12, zyc49, zyc14, zyc15, zyc50, zyc14, zyc15, zyc51, zyc52]
noncomputable def zyh879 : zH := (126, [zyr0, zyr1, zyr2, zyr3, zyr4, zyr698, zyr6, zyr7], zym96)
def zyv445 : zAV := .inl ((.ofNat 0, .ofNat 28), none)
noncomputable def zyc772 : zC := .inr (3, [zyv106, zyv107, zyv108, zyv109, zyv329, zyv445, zyv29, zyv15, zyv36])
noncomputable def zyr699 : List zC := [zyc46, zyc46, zyc47, zyc772, zyc10, zyc11, zyc10, zyc12, zyc49, zyc14, zyc15, zyc50, zyc14, zyc15, zyc51, zyc52]
noncomputable def zyh880 : zH := (126, [zyr0, zyr1, zyr2, zyr3, zyr4, zyr699, zyr6, zyr7], zym96)
def zyv446 : zAV := .inl ((.ofNat 0, .ofNat 29), none)
noncomputable def zyc773 : zC := .inr (3, [zyv106, zyv107, zyv108, zyv109, zyv328, zyv446, zyv29, zyv15, zyv36])
noncomputable def zyr700 : List zC := [zyc46, zyc46, zyc47, zyc773, zyc10, zyc11, zyc10, zyc12, zyc49, zyc14, zyc15, zyc50, zyc14, zyc15, zyc51, zyc52]
noncomputable def zyh881 : zH := (126, [zyr0, zyr1, zyr2, zyr3, zyr4, zyr700, zyr6, zyr7], zym96)
def zyv447 : zAV := .inl ((.ofNat 0, .ofNat 30), none)
noncomputable def zyc774 : zC := .inr (3, [zyv106, zyv107, zyv108, zyv109, zyv327, zyv447, zyv29, zyv15, zyv36])
noncomputable def zyr701 : List zC := [zyc46, zyc46, zyc47, zyc774, zyc10, zyc11, zyc10, zyc12, zyc49, zyc14, zyc15, zyc50, zyc14, zyc15, zyc51, zyc52]
noncomputable def zyh882 : zH := (126, [zyr0, zyr1, zyr2, zyr3, zyr4, zyr701, zyr6, zyr7], zym96)
def zyv448 : zAV := .inl ((.ofNat 0, .ofNat 31), none)
noncomputable def zyc775 : zC := .inr (3, [zyv106, zyv107, zyv108, zyv109, zyv326, zyv448, zyv29, zyv15, zyv36])
noncomputable def zyr702 : List zC := [zyc46, zyc46, zyc47, zyc775, zyc10, zyc11, zyc10, zyc12, zyc49, zyc14, zyc15, zyc50, zyc14, zyc15, zyc51, zyc52]
noncomputable def zyh883 : zH := (126, [zyr0, zyr1, zyr2, zyr3, zyr4, zyr702, zyr6, zyr7], zym96)
def zyv449 : zAV := .inl ((.ofNat 0, .ofNat 32), none)
noncomputable def zyc776 : zC := .inr (3, [zyv106, zyv107, zyv108, zyv109, zyv325, zyv449, zyv29, zyv15, zyv36])
noncomputable def zyr703 : List zC := [zyc46, zyc46, zyc47, zyc776, zyc10, zyc11, zyc10, zyc12, zyc49, zyc14, zyc15, zyc50, zyc14, zyc15, zyc51, zyc52]
noncomputable def zyh884 : zH := (126, [zyr0, zyr1, zyr2, zyr3, zyr4, zyr703, zyr6, zyr7], zym96)
def zyv450 : zAV := .inl ((.ofNat 0, .ofNat 33), none)
noncomputable def zyc777 : zC := .inr (3, [zyv106, zyv107, zyv108, zyv109, zyv324, zyv450, zyv29, zyv15, zyv36])
noncomputable def zyr704 : List zC := [zyc46, zyc46, zyc47, zyc777, zyc10, zyc11, zyc10, zyc12, zyc49, zyc14, zyc15, zyc50, zyc14, zyc15, zyc51, zyc52]
noncomputable def zyh885 : zH := (126, [zyr0, zyr1, zyr2, zyr3, zyr4, zyr704, zyr6, zyr7], zym96)
def zyv451 : zAV := .inl ((.ofNat 0, .ofNat 34), none)
noncomputable def zyc778 : zC := .inr (3, [zyv106, zyv107, zyv108, zyv109, zyv323, zyv451, zyv29, zyv15, zyv36])
noncomputable def zyr705 : List zC := [zyc46, zyc46, zyc47, zyc778, zyc10, zyc11, zyc10, zyc12, zyc49, zyc14, zyc15, zyc50, zyc14, zyc15, zyc51, zyc52]
noncomputable def zyh886 : zH := (126, [zyr0, zyr1, zyr2, zyr3, zyr4, zyr705, zyr6, zyr7], zym96)
def zyv452 : zAV := .inl ((.ofNat 0, .ofNat 35), none)
noncomputable def zyc779 : zC := .inr (3, [zyv106, zyv107, zyv108, zyv109, zyv322, zyv452, zyv29, zyv15, zyv36])
noncomputable def zyr706 : List zC := [zyc46, zyc46, zyc47, zyc779, zyc10, zyc11, zyc10, zyc12, zyc49, zyc14, zyc15, zyc50, zyc14, zyc15, zyc51, zyc52]
noncomputable def zyh887 : zH := (126, [zyr0, zyr1, zyr2, zyr3, zyr4, zyr706, zyr6, zyr7], zym96)
def zyv453 : zAV := .inl ((.ofNat 0, .ofNat 36), none)
noncomputable def zyc780 : zC := .inr (3, [zyv106, zyv107, zyv108, zyv109, zyv321, zyv453, zyv29, zyv15, zyv36])
noncomputable def zyr707 : List zC := [zyc46, zyc46, zyc47, zyc780, zyc10, zyc11, zyc10, zyc12, zyc49, zyc14, zyc15, zyc50, zyc14, zyc15, zyc51, zyc52]
noncomputable def zyh888 : zH := (126, [zyr0, zyr1, zyr2, zyr3, zyr4, zyr707, zyr6, zyr7], zym96)
def zyv454 : zAV := .inl ((.ofNat 0, .ofNat 37), none)
noncomputable def zyc781 : zC := .inr (3, [zyv106, zyv107, zyv108, zyv109, zyv320, zyv454, zyv29, zyv15, zyv36])
noncomputable def zyr708 : List zC := [zyc46, zyc46, zyc47, zyc781, zyc10, zyc11, zyc10, zyc12, zyc49, zyc14, zyc15, zyc50, zyc14, zyc15, zyc51, zyc52]
noncomputable def zyh889 : zH := (126, [zyr0, zyr1, zyr2, zyr3, zyr4, zyr708, zyr6, zyr7], zym96)
def zyv455 : zAV := .inl ((.ofNat 0, .ofNat 38), none)
noncomputable def zyc782 : zC := .inr (3, [zyv106, zyv107, zyv108, zyv109, zyv319, zyv455, zyv29, zyv15, zyv36])
noncomputable def zyr709 : List zC := [zyc46, zyc46, zyc47, zyc782, zyc10, zyc11, zyc10, zyc12, zyc49, zyc14, zyc15, zyc50, zyc14, zyc15, zyc51, zyc52]
noncomputable def zyh890 : zH := (126, [zyr0, zyr1, zyr2, zyr3, zyr4, zyr709, zyr6, zyr7], zym96)
def zyv456 : zAV := .inl ((.ofNat 0, .ofNat 39), none)
noncomputable def zyc783 : zC := .inr (3, [zyv106, zyv107, zyv108, zyv109, zyv317, zyv456, zyv29, zyv15, zyv36])
noncomputable def zyr710 : List zC := [zyc46, zyc46, zyc47, zyc783, zyc10, zyc11, zyc10, zyc12, zyc49, zyc14, zyc15, zyc50, zyc14, zyc15, zyc51, zyc52]
noncomputable def zyh891 : zH := (126, [zyr0, zyr1, zyr2, zyr3, zyr4, zyr710, zyr6, zyr7], zym96)
/-! X3_reckonDownTo -/
noncomputable def zyx773a : List zAV := [.inr (.inr (.inl 83)), .inl ((.ofNat 1, .ofNat 3), none)]
def zyx773r : Option zAV := none
noncomputable def zyx773q0 : zPw := ((0, ([(0, .inr (.inr (.inl 83))), (1, .inl ((.ofNat 1, .ofNat 3), some (1, .ofNat 0)))], [], zyh852, 0, 0), [], .ofNat 1), (zyx773r, zyh851), 3, 420)
noncomputable def zbzyx773c0 : Bool := zchkX [] zprog2 (zovW []) 100000 k2X3_reckonDownTo [] [zyx773q0] [zyx773q0]
noncomputable def zyx773q1 : zPw := ((0, ([(0, .inr (.inr (.inl 83))), (1, .inl ((.ofNat 1, .ofNat 3), some (1, .ofNat 0)))], [], zyh853, 0, 0), [], .ofNat 3), (zyx773r, zyh851), 3, 420)
noncomputable def zbzyx773c1 : Bool := zchkX [] zprog2 (zovW []) 100000 k2X3_reckonDownTo [zyx773q0] [zyx773q1] [zyx773q1]
noncomputable def zyx773q2 : zPw := ((0, ([(0, .inr (.inr (.inl 83))), (1, .inl ((.ofNat 1, .ofNat 3), some (1, .ofNat 0)))], [], zyh854, 0, 0), [], .ofNat 5), (zyx773r, zyh851), 3, 420)
noncomputable def zbzyx773c2 : Bool := zchkX [] zprog2 (zovW []) 100000 k2X3_reckonDownTo [zyx773q1] [zyx773q2] [zyx773q2]
noncomputable def zyx773q3 : zPw := ((0, ([(0, .inr (.inr (.inl 83))), (1, .inl ((.ofNat 1, .ofNat 3), some (1, .ofNat 0)))], [], zyh855, 0, 0), [], .ofNat 7), (zyx773r, zyh851), 3, 420)
noncomputable def zbzyx773c3 : Bool := zchkX [] zprog2 (zovW []) 100000 k2X3_reckonDownTo [zyx773q2] [zyx773q3] [zyx773q3]
noncomputable def zyx773q4 : zPw := ((0, ([(0, .inr (.inr (.inl 83))), (1, .inl ((.ofNat 1, .ofNat 3), some (1, .ofNat 0)))], [], zyh856, 0, 0), [], .ofNat 9), (zyx773r, zyh851), 3, 420)
noncomputable def zbzyx773c4 : Bool := zchkX [] zprog2 (zovW []) 100000 k2X3_reckonDownTo [zyx773q3] [zyx773q4] [zyx773q4]
noncomputable def zyx773q5 : zPw := ((0, ([(0, .inr (.inr (.inl 83))), (1, .inl ((.ofNat 1, .ofNat 3), some (1, .ofNat 0)))], [], zyh857, 0, 0), [], .ofNat 11), (zyx773r, zyh851), 3, 420)
noncomputable def zbzyx773c5 : Bool := zchkX [] zprog2 (zovW []) 100000 k2X3_reckonDownTo [zyx773q4] [zyx773q5] [zyx773q5]
noncomputable def zyx773q6 : zPw := ((0, ([(0, .inr (.inr (.inl 83))), (1, .inl ((.ofNat 1, .ofNat 3), some (1, .ofNat 0)))], [], zyh858, 0, 0), [], .ofNat 13), (zyx773r, zyh851), 3, 420)
noncomputable def zbzyx773c6 : Bool := zchkX [] zprog2 (zovW []) 100000 k2X3_reckonDownTo [zyx773q5] [zyx773q6] [zyx773q6]
noncomputable def zyx773q7 : zPw := ((0, ([(0, .inr (.inr (.inl 83))), (1, .inl ((.ofNat 1, .ofNat 3), some (1, .ofNat 0)))], [], zyh859, 0, 0), [], .ofNat 15), (zyx773r, zyh851), 3, 420)
noncomputable def zbzyx773c7 : Bool := zchkX [] zprog2 (zovW []) 100000 k2X3_reckonDownTo [zyx773q6] [zyx773q7] [zyx773q7]
noncomputable def zyx773q8 : zPw := ((0, ([(0, .inr (.inr (.inl 83))), (1, .inl ((.ofNat 1, .ofNat 3), some (1, .ofNat 0)))], [], zyh860, 0, 0), [], .ofNat 17), (zyx773r, zyh851), 3, 420)
noncomputable def zbzyx773c8 : Bool := zchkX [] zprog2 (zovW []) 100000 k2X3_reckonDownTo [zyx773q7] [zyx773q8] [zyx773q8]
noncomputable def zyx773q9 : zPw := ((0, ([(0, .inr (.inr (.inl 83))), (1, .inl ((.ofNat 1, .ofNat 3), some (1, .ofNat 0)))], [], zyh861, 0, 0), [], .ofNat 19), (zyx773r, zyh851), 3, 420)
noncomputable def zbzyx773c9 : Bool := zchkX [] zprog2 (zovW []) 100000 k2X3_reckonDownTo [zyx773q8] [zyx773q9] [zyx773q9]
noncomputable def zyx773q10 : zPw := ((0, ([(0, .inr (.inr (.inl 83))), (1, .inl ((.ofNat 1, .ofNat 3), some (1, .ofNat 0)))], [], zyh862, 0, 0), [], .ofNat 21), (zyx773r, zyh851), 3, 420)
noncomputable def zbzyx773c10 : Bool := zchkX [] zprog2 (zovW []) 100000 k2X3_reckonDownTo [zyx773q9] [zyx773q10] [zyx773q10]
noncomputable def zyx773q11 : zPw := ((0, ([(0, .inr (.inr (.inl 83))), (1, .inl ((.ofNat 1, .ofNat 3), some (1, .ofNat 0)))], [], zyh863, 0, 0), [], .ofNat 23), (zyx773r, zyh851), 3, 420)
noncomputable def zbzyx773c11 : Bool := zchkX [] zprog2 (zovW []) 100000 k2X3_reckonDownTo [zyx773q10] [zyx773q11] [zyx773q11]
noncomputable def zyx773q12 : zPw := ((0, ([(0, .inr (.inr (.inl 83))), (1, .inl ((.ofNat 1, .ofNat 3), some (1, .ofNat 0)))], [], zyh864, 0, 0), [], .ofNat 25), (zyx773r, zyh851), 3, 420)
noncomputable def zbzyx773c12 : Bool := zchkX [] zprog2 (zovW []) 100000 k2X3_reckonDownTo [zyx773q11] [zyx773q12] [zyx773q12]
noncomputable def zyx773q13 : zPw := ((0, ([(0, .inr (.inr (.inl 83))), (1, .inl ((.ofNat 1, .ofNat 3), some (1, .ofNat 0)))], [], zyh865, 0, 0), [], .ofNat 27), (zyx773r, zyh851), 3, 420)
noncomputable def zbzyx773c13 : Bool := zchkX [] zprog2 (zovW []) 100000 k2X3_reckonDownTo [zyx773q12] [zyx773q13] [zyx773q13]
noncomputable def zyx773q14 : zPw := ((0, ([(0, .inr (.inr (.inl 83))), (1, .inl ((.ofNat 1, .ofNat 3), some (1, .ofNat 0)))], [], zyh866, 0, 0), [], .ofNat 29), (zyx773r, zyh851), 3, 420)
noncomputable def zbzyx773c14 : Bool := zchkX [] zprog2 (zovW []) 100000 k2X3_reckonDownTo [zyx773q13] [zyx773q14] [zyx773q14]
noncomputable def zyx773q15 : zPw := ((0, ([(0, .inr (.inr (.inl 83))), (1, .inl ((.ofNat 1, .ofNat 3), some (1, .ofNat 0)))], [], zyh867, 0, 0), [], .ofNat 31), (zyx773r, zyh851), 3, 420)
noncomputable def zbzyx773c15 : Bool := zchkX [] zprog2 (zovW []) 100000 k2X3_reckonDownTo [zyx773q14] [zyx773q15] [zyx773q15]
noncomputable def zyx773q16 : zPw := ((0, ([(0, .inr (.inr (.inl 83))), (1, .inl ((.ofNat 1, .ofNat 3), some (1, .ofNat 0)))], [], zyh868, 0, 0), [], .ofNat 33), (zyx773r, zyh851), 3, 420)
noncomputable def zbzyx773c16 : Bool := zchkX [] zprog2 (zovW []) 100000 k2X3_reckonDownTo [zyx773q15] [zyx773q16] [zyx773q16]
noncomputable def zyx773q17 : zPw := ((0, ([(0, .inr (.inr (.inl 83))), (1, .inl ((.ofNat 1, .ofNat 3), some (1, .ofNat 0)))], [], zyh869, 0, 0), [], .ofNat 35), (zyx773r, zyh851), 3, 420)
noncomputable def zbzyx773c17 : Bool := zchkX [] zprog2 (zovW []) 100000 k2X3_reckonDownTo [zyx773q16] [zyx773q17] [zyx773q17]
noncomputable def zyx773q18 : zPw := ((0, ([(0, .inr (.inr (.inl 83))), (1, .inl ((.ofNat 1, .ofNat 3), some (1, .ofNat 0)))], [], zyh870, 0, 0), [], .ofNat 37), (zyx773r, zyh851), 3, 420)
noncomputable def zbzyx773c18 : Bool := zchkX [] zprog2 (zovW []) 100000 k2X3_reckonDownTo [zyx773q17] [zyx773q18] [zyx773q18]
noncomputable def zyx773q19 : zPw := ((0, ([(0, .inr (.inr (.inl 83))), (1, .inl ((.ofNat 1, .ofNat 3), some (1, .ofNat 0)))], [], zyh871, 0, 0), [], .ofNat 39), (zyx773r, zyh851), 3, 420)
noncomputable def zbzyx773c19 : Bool := zchkX [] zprog2 (zovW []) 100000 k2X3_reckonDownTo [zyx773q18] [zyx773q19] [zyx773q19]
noncomputable def zyx773q20 : zPw := ((0, ([(0, .inr (.inr (.inl 83))), (1, .inl ((.ofNat 1, .ofNat 3), some (1, .ofNat 0)))], [], zyh872, 0, 0), [], .ofNat 41), (zyx773r, zyh851), 3, 420)
noncomputable def zbzyx773c20 : Bool := zchkX [] zprog2 (zovW []) 100000 k2X3_reckonDownTo [zyx773q19] [zyx773q20] [zyx773q20]
noncomputable def zyx773q21 : zPw := ((0, ([(0, .inr (.inr (.inl 83))), (1, .inl ((.ofNat 1, .ofNat 3), some (1, .ofNat 0)))], [], zyh873, 0, 0), [], .ofNat 43), (zyx773r, zyh851), 3, 420)
noncomputable def zbzyx773c21 : Bool := zchkX [] zprog2 (zovW []) 100000 k2X3_reckonDownTo [zyx773q20] [zyx773q21] [zyx773q21]
noncomputable def zyx773q22 : zPw := ((0, ([(0, .inr (.inr (.inl 83))), (1, .inl ((.ofNat 1, .ofNat 3), some (1, .ofNat 0)))], [], zyh874, 0, 0), [], .ofNat 45), (zyx773r, zyh851), 3, 420)
noncomputable def zbzyx773c22 : Bool := zchkX [] zprog2 (zovW []) 100000 k2X3_reckonDownTo [zyx773q21] [zyx773q22] [zyx773q22]
noncomputable def zyx773q23 : zPw := ((0, ([(0, .inr (.inr (.inl 83))), (1, .inl ((.ofNat 1, .ofNat 3), some (1, .ofNat 0)))], [], zyh875, 0, 0), [], .ofNat 47), (zyx773r, zyh851), 3, 420)
noncomputable def zbzyx773c23 : Bool := zchkX [] zprog2 (zovW []) 100000 k2X3_reckonDownTo [zyx773q22] [zyx773q23] [zyx773q23]
noncomputable def zyx773q24 : zPw := ((0, ([(0, .inr (.inr (.inl 83))), (1, .inl ((.ofNat 1, .ofNat 3), some (1, .ofNat 0)))], [], zyh876, 0, 0), [], .ofNat 49), (zyx773r, zyh851), 3, 420)
noncomputable def zbzyx773c24 : Bool := zchkX [] zprog2 (zovW []) 100000 k2X3_reckonDownTo [zyx773q23] [zyx773q24] [zyx773q24]
noncomputable def zyx773q25 : zPw := ((0, ([(0, .inr (.inr (.inl 83))), (1, .inl ((.ofNat 1, .ofNat 3), some (1, .ofNat 0)))], [], zyh877, 0, 0), [], .ofNat 51), (zyx773r, zyh851), 3, 420)
noncomputable def zbzyx773c25 : Bool := zchkX [] zprog2 (zovW []) 100000 k2X3_reckonDownTo [zyx773q24] [zyx773q25] [zyx773q25]
noncomputable def zyx773q26 : zPw := ((0, ([(0, .inr (.inr (.inl 83))), (1, .inl ((.ofNat 1, .ofNat 3), some (1, .ofNat 0)))], [], zyh878, 0, 0), [], .ofNat 53), (zyx773r, zyh851), 3, 420)
noncomputable def zbzyx773c26 : Bool := zchkX [] zprog2 (zovW []) 100000 k2X3_reckonDownTo [zyx773q25] [zyx773q26] [zyx773q26]
noncomputable def zyx773q27 : zPw := ((0, ([(0, .inr (.inr (.inl 83))), (1, .inl ((.ofNat 1, .ofNat 3), some (1, .ofNat 0)))], [], zyh879, 0, 0), [], .ofNat 55), (zyx773r, zyh851), 3, 420)
noncomputable def zbzyx773c27 : Bool := zchkX [] zprog2 (zovW []) 100000 k2X3_reckonDownTo [zyx773q26] [zyx773q27] [zyx773q27]
noncomputable def zyx773q28 : zPw := ((0, ([(0, .inr (.inr (.inl 83))), (1, .inl ((.ofNat 1, .ofNat 3), some (1, .ofNat 0)))], [], zyh880, 0, 0), [], .ofNat 57), (zyx773r, zyh851), 3, 420)
noncomputable def zbzyx773c28 : Bool := zchkX [] zprog2 (zovW []) 100000 k2X3_reckonDownTo [zyx773q27] [zyx773q28] [zyx773q28]
noncomputable def zyx773q29 : zPw := ((0, ([(0, .inr (.inr (.inl 83))), (1, .inl ((.ofNat 1, .ofNat 3), some (1, .ofNat 0)))], [], zyh881, 0, 0), [], .ofNat 59), (zyx773r, zyh851), 3, 420)
noncomputable def zbzyx773c29 : Bool := zchkX [] zprog2 (zovW []) 100000 k2X3_reckonDownTo [zyx773q28] [zyx773q29] [zyx773q29]
noncomputable def zyx773q30 : zPw := ((0, ([(0, .inr (.inr (.inl 83))), (1, .inl ((.ofNat 1, .ofNat 3), some (1, .ofNat 0)))], [], zyh882, 0, 0), [], .ofNat 61), (zyx773r, zyh851), 3, 420)
noncomputable def zbzyx773c30 : Bool := zchkX [] zprog2 (zovW []) 100000 k2X3_reckonDownTo [zyx773q29] [zyx773q30] [zyx773q30]
noncomputable def zyx773q31 : zPw := ((0, ([(0, .inr (.inr (.inl 83))), (1, .inl ((.ofNat 1, .ofNat 3), some (1, .ofNat 0)))], [], zyh883, 0, 0), [], .ofNat 63), (zyx773r, zyh851), 3, 420)
noncomputable def zbzyx773c31 : Bool := zchkX [] zprog2 (zovW []) 100000 k2X3_reckonDownTo [zyx773q30] [zyx773q31] [zyx773q31]
noncomputable def zyx773q32 : zPw := ((0, ([(0, .inr (.inr (.inl 83))), (1, .inl ((.ofNat 1, .ofNat 3), some (1, .ofNat 0)))], [], zyh884, 0, 0), [], .ofNat 65), (zyx773r, zyh851), 3, 420)
noncomputable def zbzyx773c32 : Bool := zchkX [] zprog2 (zovW []) 100000 k2X3_reckonDownTo [zyx773q31] [zyx773q32] [zyx773q32]
noncomputable def zyx773q33 : zPw := ((0, ([(0, .inr (.inr (.inl 83))), (1, .inl ((.ofNat 1, .ofNat 3), some (1, .ofNat 0)))], [], zyh885, 0, 0), [], .ofNat 67), (zyx773r, zyh851), 3, 420)
noncomputable def zbzyx773c33 : Bool := zchkX [] zprog2 (zovW []) 100000 k2X3_reckonDownTo [zyx773q32] [zyx773q33] [zyx773q33]
noncomputable def zyx773q34 : zPw := ((0, ([(0, .inr (.inr (.inl 83))), (1, .inl ((.ofNat 1, .ofNat 3), some (1, .ofNat 0)))], [], zyh886, 0, 0), [], .ofNat 69), (zyx773r, zyh851), 3, 420)
noncomputable def zbzyx773c34 : Bool := zchkX [] zprog2 (zovW []) 100000 k2X3_reckonDownTo [zyx773q33] [zyx773q34] [zyx773q34]
noncomputable def zyx773q35 : zPw := ((0, ([(0, .inr (.inr (.inl 83))), (1, .inl ((.ofNat 1, .ofNat 3), some (1, .ofNat 0)))], [], zyh887, 0, 0), [], .ofNat 71), (zyx773r, zyh851), 3, 420)
noncomputable def zbzyx773c35 : Bool := zchkX [] zprog2 (zovW []) 100000 k2X3_reckonDownTo [zyx773q34] [zyx773q35] [zyx773q35]
noncomputable def zyx773q36 : zPw := ((0, ([(0, .inr (.inr (.inl 83))), (1, .inl ((.ofNat 1, .ofNat 3), some (1, .ofNat 0)))], [], zyh888, 0, 0), [], .ofNat 73), (zyx773r, zyh851), 3, 420)
noncomputable def zbzyx773c36 : Bool := zchkX [] zprog2 (zovW []) 100000 k2X3_reckonDownTo [zyx773q35] [zyx773q36] [zyx773q36]
noncomputable def zyx773q37 : zPw := ((0, ([(0, .inr (.inr (.inl 83))), (1, .inl ((.ofNat 1, .ofNat 3), some (1, .ofNat 0)))], [], zyh889, 0, 0), [], .ofNat 75), (zyx773r, zyh851), 3, 420)
noncomputable def zbzyx773c37 : Bool := zchkX [] zprog2 (zovW []) 100000 k2X3_reckonDownTo [zyx773q36] [zyx773q37] [zyx773q37]
noncomputable def zyx773q38 : zPw := ((0, ([(0, .inr (.inr (.inl 83))), (1, .inl ((.ofNat 1, .ofNat 3), some (1, .ofNat 0)))], [], zyh890, 0, 0), [], .ofNat 77), (zyx773r, zyh851), 3, 420)
noncomputable def zbzyx773c38 : Bool := zchkX [] zprog2 (zovW []) 100000 k2X3_reckonDownTo [zyx773q37] [zyx773q38] [zyx773q38]
noncomputable def zyx773q39 : zPw := ((0, ([(0, .inr (.inr (.inl 83))), (1, .inl ((.ofNat 1, .ofNat 3), some (1, .ofNat 0)))], [], zyh891, 0, 0), [], .ofNat 79), (zyx773r, zyh851), 3, 420)
noncomputable def zbzyx773c39 : Bool := zchkX [] zprog2 (zovW []) 100000 k2X3_reckonDownTo [zyx773q38] [zyx773q39] [zyx773q39]
noncomputable def zyx773d : zKw := (54, 2, 3, 420, zyx773a, zyh0, [(zyx773r, zyh851)])
noncomputable def zbzyx773e : Bool := zrunw zprog2 (zovW []) 100000 (zcutW [] none ((zyx773r, zyh851), 3, 420) [zyx773q39]) 3 420 k2X3_reckonDownTo (zkin zyx773r zyh851) 0 (zargs 0 zyx773a, [], (zyh0.1, zyh0.2.1, 0), 0, 0)
noncomputable def zyg34 : List Bool := [zbzyx773c0, zbzyx773c1, zbzyx773c2, zbzyx773c3, zbzyx773c4, zbzyx773c5, zbzyx773c6, zbzyx773c7, zbzyx773c8, zbzyx773c9, zbzyx773c10, zbzyx773c11, zbzyx773c12, zbzyx773c13, zbzyx773c14, zbzyx773c15, zbzyx773c16, zbzyx773c17, zbzyx773c18, zbzyx773c19, zbzyx773c20, zbzyx773c21, zbzyx773c22, zbzyx773c23, zbzyx773c24, zbzyx773c25, zbzyx773c26, zbzyx773c27, zbzyx773c28, zbzyx773c29, zbzyx773c30, zbzyx773c31, zbzyx773c32, zbzyx773c33, zbzyx773c34, zbzyx773c35, zbzyx773c36, zbzyx773c37, zbzyx773c38, zbzyx773c39, zbzyx773e]
set_option maxRecDepth 100000 in
theorem zyg34_ok : zall (fun b => b) zyg34 = true := by decide +kernel
theorem zyx773c0 : zchkX [] zprog2 (zovW []) 100000 k2X3_reckonDownTo [] [zyx773q0] [zyx773q0] = true := zall_ok zyg34_ok (k := 0) (a := zbzyx773c0) rfl
theorem zyx773_k0 {l : Launch} {D : va_G} {tys : List (ClassId × FieldType)} {o : zO} {z : Nat} (E : zEnv tys) : zPtOk l D vwCl tys o z (zXX o z) zTs m2X3_reckonDownTo zyx773q0 := zkn_pt E (fun g => fun _ h => absurd h List.not_mem_nil) (show zget zprog2 54 = some m2X3_reckonDownTo from rfl) (fun _ h => absurd h List.not_mem_nil) zyx773c0 _ (List.mem_of_getElem? (i := 0) rfl)
theorem zyx773c1 : zchkX [] zprog2 (zovW []) 100000 k2X3_reckonDownTo [zyx773q0] [zyx773q1] [zyx773q1] = true := zall_ok zyg34_ok (k := 1) (a := zbzyx773c1) rfl
theorem zyx773_k1 {l : Launch} {D : va_G} {tys : List (ClassId × FieldType)} {o : zO} {z : Nat} (E : zEnv tys) : zPtOk l D vwCl tys o z (zXX o z) zTs m2X3_reckonDownTo zyx773q1 := zkn_pt E (fun g => fun _ h => absurd h List.not_mem_nil) (show zget zprog2 54 = some m2X3_reckonDownTo from rfl) (List.forall_mem_cons.mpr ⟨zyx773_k0 E, fun _ h => absurd h List.not_mem_nil⟩) zyx773c1 _ (List.mem_of_getElem? (i := 0) rfl)
theorem zyx773c2 : zchkX [] zprog2 (zovW []) 100000 k2X3_reckonDownTo [zyx773q1] [zyx773q2] [zyx773q2] = true := zall_ok zyg34_ok (k := 2) (a := zbzyx773c2) rfl
theorem zyx773_k2 {l : Launch} {D : va_G} {tys : List (ClassId × FieldType)} {o : zO} {z : Nat} (E : zEnv tys) : zPtOk l D vwCl tys o z (zXX o z) zTs m2X3_reckonDownTo zyx773q2 := zkn_pt E (fun g => fun _ h => absurd h List.not_mem_nil) (show zget zprog2 54 = some m2X3_reckonDownTo from rfl) (List.forall_mem_cons.mpr ⟨zyx773_k1 E, fun _ h => absurd h List.not_mem_nil⟩) zyx773c2 _ (List.mem_of_getElem? (i := 0) rfl)
theorem zyx773c3 : zchkX [] zprog2 (zovW []) 100000 k2X3_reckonDownTo [zyx773q2] [zyx773q3] [zyx773q3] = true := zall_ok zyg34_ok (k := 3) (a := zbzyx773c3) rfl
theorem zyx773_k3 {l : Launch} {D : va_G} {tys : List (ClassId × FieldType)} {o : zO} {z : Nat} (E : zEnv tys) : zPtOk l D vwCl tys o z (zXX o z) zTs m2X3_reckonDownTo zyx773q3 := zkn_pt E (fun g => fun _ h => absurd h List.not_mem_nil) (show zget zprog2 54 = some m2X3_reckonDownTo from rfl) (List.forall_mem_cons.mpr ⟨zyx773_k2 E, fun _ h => absurd h List.not_mem_nil⟩) zyx773c3 _ (List.mem_of_getElem? (i := 0) rfl)
theorem zyx773c4 : zchkX [] zprog2 (zovW []) 100000 k2X3_reckonDownTo [zyx773q3] [zyx773q4] [zyx773q4] = true := zall_ok zyg34_ok (k := 4) (a := zbzyx773c4) rfl
theorem zyx773_k4 {l : Launch} {D : va_G} {tys : List (ClassId × FieldType)} {o : zO} {z : Nat} (E : zEnv tys) : zPtOk l D vwCl tys o z (zXX o z) zTs m2X3_reckonDownTo zyx773q4 := zkn_pt E (fun g => fun _ h => absurd h List.not_mem_nil) (show zget zprog2 54 = some m2X3_reckonDownTo from rfl) (List.forall_mem_cons.mpr ⟨zyx773_k3 E, fun _ h => absurd h List.not_mem_nil⟩) zyx773c4 _ (List.mem_of_getElem? (i := 0) rfl)
theorem zyx773c5 : zchkX [] zprog2 (zovW []) 100000 k2X3_reckonDownTo [zyx773q4] [zyx773q5] [zyx773q5] = true := zall_ok zyg34_ok (k := 5) (a := zbzyx773c5) rfl
theorem zyx773_k5 {l : Launch} {D : va_G} {tys : List (ClassId × FieldType)} {o : zO} {z : Nat} (E : zEnv tys) : zPtOk l D vwCl tys o z (zXX o z) zTs m2X3_reckonDownTo zyx773q5 := zkn_pt E (fun g => fun _ h => absurd h List.not_mem_nil) (show zget zprog2 54 = some m2X3_reckonDownTo from rfl) (List.forall_mem_cons.mpr ⟨zyx773_k4 E, fun _ h => absurd h List.not_mem_nil⟩) zyx773c5 _ (List.mem_of_getElem? (i := 0) rfl)
theorem zyx773c6 : zchkX [] zprog2 (zovW []) 100000 k2X3_reckonDownTo [zyx773q5] [zyx773q6] [zyx773q6] = true := zall_ok zyg34_ok (k := 6) (a := zbzyx773c6) rfl
theorem zyx773_k6 {l : Launch} {D : va_G} {tys : List (ClassId × FieldType)} {o : zO} {z : Nat} (E : zEnv tys) : zPtOk l D vwCl tys o z (zXX o z) zTs m2X3_reckonDownTo zyx773q6 := zkn_pt E (fun g => fun _ h => absurd h List.not_mem_nil) (show zget zprog2 54 = some m2X3_reckonDownTo from rfl) (List.forall_mem_cons.mpr ⟨zyx773_k5 E, fun _ h => absurd h List.not_mem_nil⟩) zyx773c6 _ (List.mem_of_getElem? (i := 0) rfl)
theorem zyx773c7 : zchkX [] zprog2 (zovW []) 100000 k2X3_reckonDownTo [zyx773q6] [zyx773q7] [zyx773q7] = true := zall_ok zyg34_ok (k := 7) (a := zbzyx773c7) rfl
theorem zyx773_k7 {l : Launch} {D : va_G} {tys : List (ClassId × FieldType)} {o : zO} {z : Nat} (E : zEnv tys) : zPtOk l D vwCl tys o z (zXX o z) zTs m2X3_reckonDownTo zyx773q7 := zkn_pt E (fun g => fun _ h => absurd h List.not_mem_nil) (show zget zprog2 54 = some m2X3_reckonDownTo from rfl) (List.forall_mem_cons.mpr ⟨zyx773_k6 E, fun _ h => absurd h List.not_mem_nil⟩) zyx773c7 _ (List.mem_of_getElem? (i := 0) rfl)
theorem zyx773c8 : zchkX [] zprog2 (zovW []) 100000 k2X3_reckonDownTo [zyx773q7] [zyx773q8] [zyx773q8] = true := zall_ok zyg34_ok (k := 8) (a := zbzyx773c8) rfl
theorem zyx773_k8 {l : Launch} {D : va_G} {tys : List (ClassId × FieldType)} {o : zO} {z : Nat} (E : zEnv tys) : zPtOk l D vwCl tys o z (zXX o z) zTs m2X3_reckonDownTo zyx773q8 := zkn_pt E (fun g => fun _ h => absurd h List.not_mem_nil) (show zget zprog2 54 = some m2X3_reckonDownTo from rfl) (List.forall_mem_cons.mpr ⟨zyx773_k7 E, fun _ h => absurd h List.not_mem_nil⟩) zyx773c8 _ (List.mem_of_getElem? (i := 0) rfl)
theorem zyx773c9 : zchkX [] zprog2 (zovW []) 100000 k2X3_reckonDownTo [zyx773q8] [zyx773q9] [zyx773q9] = true := zall_ok zyg34_ok (k := 9) (a := zbzyx773c9) rfl
theorem zyx773_k9 {l : Launch} {D : va_G} {tys : List (ClassId × FieldType)} {o : zO} {z : Nat} (E : zEnv tys) : zPtOk l D vwCl tys o z (zXX o z) zTs m2X3_reckonDownTo zyx773q9 := zkn_pt E (fun g => fun _ h => absurd h List.not_mem_nil) (show zget zprog2 54 = some m2X3_reckonDownTo from rfl) (List.forall_mem_cons.mpr ⟨zyx773_k8 E, fun _ h => absurd h List.not_mem_nil⟩) zyx773c9 _ (List.mem_of_getElem? (i := 0) rfl)
theorem zyx773c10 : zchkX [] zprog2 (zovW []) 100000 k2X3_reckonDownTo [zyx773q9] [zyx773q10] [zyx773q10] = true := zall_ok zyg34_ok (k := 10) (a := zbzyx773c10) rfl
theorem zyx773_k10 {l : Launch} {D : va_G} {tys : List (ClassId × FieldType)} {o : zO} {z : Nat} (E : zEnv tys) : zPtOk l D vwCl tys o z (zXX o z) zTs m2X3_reckonDownTo zyx773q10 := zkn_pt E (fun g => fun _ h => absurd h List.not_mem_nil) (show zget zprog2 54 = some m2X3_reckonDownTo from rfl) (List.forall_mem_cons.mpr ⟨zyx773_k9 E, fun _ h => absurd h List.not_mem_nil⟩) zyx773c10 _ (List.mem_of_getElem? (i := 0) rfl)
theorem zyx773c11 : zchkX [] zprog2 (zovW []) 100000 k2X3_reckonDownTo [zyx773q10] [zyx773q11] [zyx773q11] = true := zall_ok zyg34_ok (k := 11) (a := zbzyx773c11) rfl
theorem zyx773_k11 {l : Launch} {D : va_G} {tys : List (ClassId × FieldType)} {o : zO} {z : Nat} (E : zEnv tys) : zPtOk l D vwCl tys o z (zXX o z) zTs m2X3_reckonDownTo zyx773q11 := zkn_pt E (fun g => fun _ h => absurd h List.not_mem_nil) (show zget zprog2 54 = some m2X3_reckonDownTo from rfl) (List.forall_mem_cons.mpr ⟨zyx773_k10 E, fun _ h => absurd h List.not_mem_nil⟩) zyx773c11 _ (List.mem_of_getElem? (i := 0) rfl)
theorem zyx773c12 : zchkX [] zprog2 (zovW []) 100000 k2X3_reckonDownTo [zyx773q11] [zyx773q12] [zyx773q12] = true := zall_ok zyg34_ok (k := 12) (a := zbzyx773c12) rfl
theorem zyx773_k12 {l : Launch} {D : va_G} {tys : List (ClassId × FieldType)} {o : zO} {z : Nat} (E : zEnv tys) : zPtOk l D vwCl tys o z (zXX o z) zTs m2X3_reckonDownTo zyx773q12 := zkn_pt E (fun g => fun _ h => absurd h List.not_mem_nil) (show zget zprog2 54 = some m2X3_reckonDownTo from rfl) (List.forall_mem_cons.mpr ⟨zyx773_k11 E, fun _ h => absurd h List.not_mem_nil⟩) zyx773c12 _ (List.mem_of_getElem? (i := 0) rfl)
theorem zyx773c13 : zchkX [] zprog2 (zovW []) 100000 k2X3_reckonDownTo [zyx773q12] [zyx773q13] [zyx773q13] = true := zall_ok zyg34_ok (k := 13) (a := zbzyx773c13) rfl
theorem zyx773_k13 {l : Launch} {D : va_G} {tys : List (ClassId × FieldType)} {o : zO} {z : Nat} (E : zEnv tys) : zPtOk l D vwCl tys o z (zXX o z) zTs m2X3_reckonDownTo zyx773q13 := zkn_pt E (fun g => fun _ h => absurd h List.not_mem_nil) (show zget zprog2 54 = some m2X3_reckonDownTo from rfl) (List.forall_mem_cons.mpr ⟨zyx773_k12 E, fun _ h => absurd h List.not_mem_nil⟩) zyx773c13 _ (List.mem_of_getElem? (i := 0) rfl)
theorem zyx773c14 : zchkX [] zprog2 (zovW []) 100000 k2X3_reckonDownTo [zyx773q13] [zyx773q14] [zyx773q14] = true := zall_ok zyg34_ok (k := 14) (a := zbzyx773c14) rfl
theorem zyx773_k14 {l : Launch} {D : va_G} {tys : List (ClassId × FieldType)} {o : zO} {z : Nat} (E : zEnv tys) : zPtOk l D vwCl tys o z (zXX o z) zTs m2X3_reckonDownTo zyx773q14 := zkn_pt E (fun g => fun _ h => absurd h List.not_mem_nil) (show zget zprog2 54 = some m2X3_reckonDownTo from rfl) (List.forall_mem_cons.mpr ⟨zyx773_k13 E, fun _ h => absurd h List.not_mem_nil⟩) zyx773c14 _ (List.mem_of_getElem? (i := 0) rfl)
theorem zyx773c15 : zchkX [] zprog2 (zovW []) 100000 k2X3_reckonDownTo [zyx773q14] [zyx773q15] [zyx773q15] = true := zall_ok zyg34_ok (k := 15) (a := zbzyx773c15) rfl
theorem zyx773_k15 {l : Launch} {D : va_G} {tys : List (ClassId × FieldType)} {o : zO} {z : Nat} (E : zEnv tys) : zPtOk l D vwCl tys o z (zXX o z) zTs m2X3_reckonDownTo zyx773q15 := zkn_pt E (fun g => fun _ h => absurd h List.not_mem_nil) (show zget zprog2 54 = some m2X3_reckonDownTo from rfl) (List.forall_mem_cons.mpr ⟨zyx773_k14 E, fun _ h => absurd h List.not_mem_nil⟩) zyx773c15 _ (List.mem_of_getElem? (i := 0) rfl)
theorem zyx773c16 : zchkX [] zprog2 (zovW []) 100000 k2X3_reckonDownTo [zyx773q15] [zyx773q16] [zyx773q16] = true := zall_ok zyg34_ok (k := 16) (a := zbzyx773c16) rfl
theorem zyx773_k16 {l : Launch} {D : va_G} {tys : List (ClassId × FieldType)} {o : zO} {z : Nat} (E : zEnv tys) : zPtOk l D vwCl tys o z (zXX o z) zTs m2X3_reckonDownTo zyx773q16 := zkn_pt E (fun g => fun _ h => absurd h List.not_mem_nil) (show zget zprog2 54 = some m2X3_reckonDownTo from rfl) (List.forall_mem_cons.mpr ⟨zyx773_k15 E, fun _ h => absurd h List.not_mem_nil⟩) zyx773c16 _ (List.mem_of_getElem? (i := 0) rfl)
theorem zyx773c17 : zchkX [] zprog2 (zovW []) 100000 k2X3_reckonDownTo [zyx773q16] [zyx773q17] [zyx773q17] = true := zall_ok zyg34_ok (k := 17) (a := zbzyx773c17) rfl
theorem zyx773_k17 {l : Launch} {D : va_G} {tys : List (ClassId × FieldType)} {o : zO} {z : Nat} (E : zEnv tys) : zPtOk l D vwCl tys o z (zXX o z) zTs m2X3_reckonDownTo zyx773q17 := zkn_pt E (fun g => fun _ h => absurd h List.not_mem_nil) (show zget zprog2 54 = some m2X3_reckonDownTo from rfl) (List.forall_mem_cons.mpr ⟨zyx773_k16 E, fun _ h => absurd h List.not_mem_nil⟩) zyx773c17 _ (List.mem_of_getElem? (i := 0) rfl)
theorem zyx773c18 : zchkX [] zprog2 (zovW []) 100000 k2X3_reckonDownTo [zyx773q17] [zyx773q18] [zyx773q18] = true := zall_ok zyg34_ok (k := 18) (a := zbzyx773c18) rfl
theorem zyx773_k18 {l : Launch} {D : va_G} {tys : List (ClassId × FieldType)} {o : zO} {z : Nat} (E : zEnv tys) : zPtOk l D vwCl tys o z (zXX o z) zTs m2X3_reckonDownTo zyx773q18 := zkn_pt E (fun g => fun _ h => absurd h List.not_mem_nil) (show zget zprog2 54 = some m2X3_reckonDownTo from rfl) (List.forall_mem_cons.mpr ⟨zyx773_k17 E, fun _ h => absurd h List.not_mem_nil⟩) zyx773c18 _ (List.mem_of_getElem? (i := 0) rfl)
theorem zyx773c19 : zchkX [] zprog2 (zovW []) 100000 k2X3_reckonDownTo [zyx773q18] [zyx773q19] [zyx773q19] = true := zall_ok zyg34_ok (k := 19) (a := zbzyx773c19) rfl
theorem zyx773_k19 {l : Launch} {D : va_G} {tys : List (ClassId × FieldType)} {o : zO} {z : Nat} (E : zEnv tys) : zPtOk l D vwCl tys o z (zXX o z) zTs m2X3_reckonDownTo zyx773q19 := zkn_pt E (fun g => fun _ h => absurd h List.not_mem_nil) (show zget zprog2 54 = some m2X3_reckonDownTo from rfl) (List.forall_mem_cons.mpr ⟨zyx773_k18 E, fun _ h => absurd h List.not_mem_nil⟩) zyx773c19 _ (List.mem_of_getElem? (i := 0) rfl)
theorem zyx773c20 : zchkX [] zprog2 (zovW []) 100000 k2X3_reckonDownTo [zyx773q19] [zyx773q20] [zyx773q20] = true := zall_ok zyg34_ok (k := 20) (a := zbzyx773c20) rfl
theorem zyx773_k20 {l : Launch} {D : va_G} {tys : List (ClassId × FieldType)} {o : zO} {z : Nat} (E : zEnv tys) : zPtOk l D vwCl tys o z (zXX o z) zTs m2X3_reckonDownTo zyx773q20 := zkn_pt E (fun g => fun _ h => absurd h List.not_mem_nil) (show zget zprog2 54 = some m2X3_reckonDownTo from rfl) (List.forall_mem_cons.mpr ⟨zyx773_k19 E, fun _ h => absurd h List.not_mem_nil⟩) zyx773c20 _ (List.mem_of_getElem? (i := 0) rfl)
theorem zyx773c21 : zchkX [] zprog2 (zovW []) 100000 k2X3_reckonDownTo [zyx773q20] [zyx773q21] [zyx773q21] = true := zall_ok zyg34_ok (k := 21) (a := zbzyx773c21) rfl
theorem zyx773_k21 {l : Launch} {D : va_G} {tys : List (ClassId × FieldType)} {o : zO} {z : Nat} (E : zEnv tys) : zPtOk l D vwCl tys o z (zXX o z) zTs m2X3_reckonDownTo zyx773q21 := zkn_pt E (fun g => fun _ h => absurd h List.not_mem_nil) (show zget zprog2 54 = some m2X3_reckonDownTo from rfl) (List.forall_mem_cons.mpr ⟨zyx773_k20 E, fun _ h => absurd h List.not_mem_nil⟩) zyx773c21 _ (List.mem_of_getElem? (i := 0) rfl)
theorem zyx773c22 : zchkX [] zprog2 (zovW []) 100000 k2X3_reckonDownTo [zyx773q21] [zyx773q22] [zyx773q22] = true := zall_ok zyg34_ok (k := 22) (a := zbzyx773c22) rfl
theorem zyx773_k22 {l : Launch} {D : va_G} {tys : List (ClassId × FieldType)} {o : zO} {z : Nat} (E : zEnv tys) : zPtOk l D vwCl tys o z (zXX o z) zTs m2X3_reckonDownTo zyx773q22 := zkn_pt E (fun g => fun _ h => absurd h List.not_mem_nil) (show zget zprog2 54 = some m2X3_reckonDownTo from rfl) (List.forall_mem_cons.mpr ⟨zyx773_k21 E, fun _ h => absurd h List.not_mem_nil⟩) zyx773c22 _ (List.mem_of_getElem? (i := 0) rfl)
theorem zyx773c23 : zchkX [] zprog2 (zovW []) 100000 k2X3_reckonDownTo [zyx773q22] [zyx773q23] [zyx773q23] = true := zall_ok zyg34_ok (k := 23) (a := zbzyx773c23) rfl
theorem zyx773_k23 {l : Launch} {D : va_G} {tys : List (ClassId × FieldType)} {o : zO} {z : Nat} (E : zEnv tys) : zPtOk l D vwCl tys o z (zXX o z) zTs m2X3_reckonDownTo zyx773q23 := zkn_pt E (fun g => fun _ h => absurd h List.not_mem_nil) (show zget zprog2 54 = some m2X3_reckonDownTo from rfl) (List.forall_mem_cons.mpr ⟨zyx773_k22 E, fun _ h => absurd h List.not_mem_nil⟩) zyx773c23 _ (List.mem_of_getElem? (i := 0) rfl)
theorem zyx773c24 : zchkX [] zprog2 (zovW []) 100000 k2X3_reckonDownTo [zyx773q23] [zyx773q24] [zyx773q24] = true := zall_ok zyg34_ok (k := 24) (a := zbzyx773c24) rfl
theorem zyx773_k24 {l : Launch} {D : va_G} {tys : List (ClassId × FieldType)} {o : zO} {z : Nat} (E : zEnv tys) : zPtOk l D vwCl tys o z (zXX o z) zTs m2X3_reckonDownTo zyx773q24 := zkn_pt E (fun g => fun _ h => absurd h List.not_mem_nil) (show zget zprog2 54 = some m2X3_reckonDownTo from rfl) (List.forall_mem_cons.mpr ⟨zyx773_k23 E, fun _ h => absurd h List.not_mem_nil⟩) zyx773c24 _ (List.mem_of_getElem? (i := 0) rfl)
theorem zyx773c25 : zchkX [] zprog2 (zovW []) 100000 k2X3_reckonDownTo [zyx773q24] [zyx773q25] [zyx773q25] = true := zall_ok zyg34_ok (k := 25) (a := zbzyx773c25) rfl
theorem zyx773_k25 {l : Launch} {D : va_G} {tys : List (ClassId × FieldType)} {o : zO} {z : Nat} (E : zEnv tys) : zPtOk l D vwCl tys o z (zXX o z) zTs m2X3_reckonDownTo zyx773q25 := zkn_pt E (fun g => fun _ h => absurd h List.not_mem_nil) (show zget zprog2 54 = some m2X3_reckonDownTo from rfl) (List.forall_mem_cons.mpr ⟨zyx773_k24 E, fun _ h => absurd h List.not_mem_nil⟩) zyx773c25 _ (List.mem_of_getElem? (i := 0) rfl)
theorem zyx773c26 : zchkX [] zprog2 (zovW []) 100000 k2X3_reckonDownTo [zyx773q25] [zyx773q26] [zyx773q26] = true := zall_ok zyg34_ok (k := 26) (a := zbzyx773c26) rfl
theorem zyx773_k26 {l : Launch} {D : va_G} {tys : List (ClassId × FieldType)} {o : zO} {z : Nat} (E : zEnv tys) : zPtOk l D vwCl tys o z (zXX o z) zTs m2X3_reckonDownTo zyx773q26 := zkn_pt E (fun g => fun _ h => absurd h List.not_mem_nil) (show zget zprog2 54 = some m2X3_reckonDownTo from rfl) (List.forall_mem_cons.mpr ⟨zyx773_k25 E, fun _ h => absurd h List.not_mem_nil⟩) zyx773c26 _ (List.mem_of_getElem? (i := 0) rfl)
theorem zyx773c27 : zchkX [] zprog2 (zovW []) 100000 k2X3_reckonDownTo [zyx773q26] [zyx773q27] [zyx773q27] = true := zall_ok zyg34_ok (k := 27) (a := zbzyx773c27) rfl
theorem zyx773_k27 {l : Launch} {D : va_G} {tys : List (ClassId × FieldType)} {o : zO} {z : Nat} (E : zEnv tys) : zPtOk l D vwCl tys o z (zXX o z) zTs m2X3_reckonDownTo zyx773q27 := zkn_pt E (fun g => fun _ h => absurd h List.not_mem_nil) (show zget zprog2 54 = some m2X3_reckonDownTo from rfl) (List.forall_mem_cons.mpr ⟨zyx773_k26 E, fun _ h => absurd h List.not_mem_nil⟩) zyx773c27 _ (List.mem_of_getElem? (i := 0) rfl)
theorem zyx773c28 : zchkX [] zprog2 (zovW []) 100000 k2X3_reckonDownTo [zyx773q27] [zyx773q28] [zyx773q28] = true := zall_ok zyg34_ok (k := 28) (a := zbzyx773c28) rfl
theorem zyx773_k28 {l : Launch} {D : va_G} {tys : List (ClassId × FieldType)} {o : zO} {z : Nat} (E : zEnv tys) : zPtOk l D vwCl tys o z (zXX o z) zTs m2X3_reckonDownTo zyx773q28 := zkn_pt E (fun g => fun _ h => absurd h List.not_mem_nil) (show zget zprog2 54 = some m2X3_reckonDownTo from rfl) (List.forall_mem_cons.mpr ⟨zyx773_k27 E, fun _ h => absurd h List.not_mem_nil⟩) zyx773c28 _ (List.mem_of_getElem? (i := 0) rfl)
theorem zyx773c29 : zchkX [] zprog2 (zovW []) 100000 k2X3_reckonDownTo [zyx773q28] [zyx773q29] [zyx773q29] = true := zall_ok zyg34_ok (k := 29) (a := zbzyx773c29) rfl
theorem zyx773_k29 {l : Launch} {D : va_G} {tys : List (ClassId × FieldType)} {o : zO} {z : Nat} (E : zEnv tys) : zPtOk l D vwCl tys o z (zXX o z) zTs m2X3_reckonDownTo zyx773q29 := zkn_pt E (fun g => fun _ h => absurd h List.not_mem_nil) (show zget zprog2 54 = some m2X3_reckonDownTo from rfl) (List.forall_mem_cons.mpr ⟨zyx773_k28 E, fun _ h => absurd h List.not_mem_nil⟩) zyx773c29 _ (List.mem_of_getElem? (i := 0) rfl)
theorem zyx773c30 : zchkX [] zprog2 (zovW []) 100000 k2X3_reckonDownTo [zyx773q29] [zyx773q30] [zyx773q30] = true := zall_ok zyg34_ok (k := 30) (a := zbzyx773c30) rfl
theorem zyx773_k30 {l : Launch} {D : va_G} {tys : List (ClassId × FieldType)} {o : zO} {z : Nat} (E : zEnv tys) : zPtOk l D vwCl tys o z (zXX o z) zTs m2X3_reckonDownTo zyx773q30 := zkn_pt E (fun g => fun _ h => absurd h List.not_mem_nil) (show zget zprog2 54 = some m2X3_reckonDownTo from rfl) (List.forall_mem_cons.mpr ⟨zyx773_k29 E, fun _ h => absurd h List.not_mem_nil⟩) zyx773c30 _ (List.mem_of_getElem? (i := 0) rfl)
theorem zyx773c31 : zchkX [] zprog2 (zovW []) 100000 k2X3_reckonDownTo [zyx773q30] [zyx773q31] [zyx773q31] = true := zall_ok zyg34_ok (k := 31) (a := zbzyx773c31) rfl
theorem zyx773_k31 {l : Launch} {D : va_G} {tys : List (ClassId × FieldType)} {o : zO} {z : Nat} (E : zEnv tys) : zPtOk l D vwCl tys o z (zXX o z) zTs m2X3_reckonDownTo zyx773q31 := zkn_pt E (fun g => fun _ h => absurd h List.not_mem_nil) (show zget zprog2 54 = some m2X3_reckonDownTo from rfl) (List.forall_mem_cons.mpr ⟨zyx773_k30 E, fun _ h => absurd h List.not_mem_nil⟩) zyx773c31 _ (List.mem_of_getElem? (i := 0) rfl)
theorem zyx773c32 : zchkX [] zprog2 (zovW []) 100000 k2X3_reckonDownTo [zyx773q31] [zyx773q32] [zyx773q32] = true := zall_ok zyg34_ok (k := 32) (a := zbzyx773c32) rfl
theorem zyx773_k32 {l : Launch} {D : va_G} {tys : List (ClassId × FieldType)} {o : zO} {z : Nat} (E : zEnv tys) : zPtOk l D vwCl tys o z (zXX o z) zTs m2X3_reckonDownTo zyx773q32 := zkn_pt E (fun g => fun _ h => absurd h List.not_mem_nil) (show zget zprog2 54 = some m2X3_reckonDownTo from rfl) (List.forall_mem_cons.mpr ⟨zyx773_k31 E, fun _ h => absurd h List.not_mem_nil⟩) zyx773c32 _ (List.mem_of_getElem? (i := 0) rfl)
theorem zyx773c33 : zchkX [] zprog2 (zovW []) 100000 k2X3_reckonDownTo [zyx773q32] [zyx773q33] [zyx773q33] = true := zall_ok zyg34_ok (k := 33) (a := zbzyx773c33) rfl
theorem zyx773_k33 {l : Launch} {D : va_G} {tys : List (ClassId × FieldType)} {o : zO} {z : Nat} (E : zEnv tys) : zPtOk l D vwCl tys o z (zXX o z) zTs m2X3_reckonDownTo zyx773q33 := zkn_pt E (fun g => fun _ h => absurd h List.not_mem_nil) (show zget zprog2 54 = some m2X3_reckonDownTo from rfl) (List.forall_mem_cons.mpr ⟨zyx773_k32 E, fun _ h => absurd h List.not_mem_nil⟩) zyx773c33 _ (List.mem_of_getElem? (i := 0) rfl)
theorem zyx773c34 : zchkX [] zprog2 (zovW []) 100000 k2X3_reckonDownTo [zyx773q33] [zyx773q34] [zyx773q34] = true := zall_ok zyg34_ok (k := 34) (a := zbzyx773c34) rfl
theorem zyx773_k34 {l : Launch} {D : va_G} {tys : List (ClassId × FieldType)} {o : zO} {z : Nat} (E : zEnv tys) : zPtOk l D vwCl tys o z (zXX o z) zTs m2X3_reckonDownTo zyx773q34 := zkn_pt E (fun g => fun _ h => absurd h List.not_mem_nil) (show zget zprog2 54 = some m2X3_reckonDownTo from rfl) (List.forall_mem_cons.mpr ⟨zyx773_k33 E, fun _ h => absurd h List.not_mem_nil⟩) zyx773c34 _ (List.mem_of_getElem? (i := 0) rfl)
theorem zyx773c35 : zchkX [] zprog2 (zovW []) 100000 k2X3_reckonDownTo [zyx773q34] [zyx773q35] [zyx773q35] = true := zall_ok zyg34_ok (k := 35) (a := zbzyx773c35) rfl
theorem zyx773_k35 {l : Launch} {D : va_G} {tys : List (ClassId × FieldType)} {o : zO} {z : Nat} (E : zEnv tys) : zPtOk l D vwCl tys o z (zXX o z) zTs m2X3_reckonDownTo zyx773q35 := zkn_pt E (fun g => fun _ h => absurd h List.not_mem_nil) (show zget zprog2 54 = some m2X3_reckonDownTo from rfl) (List.forall_mem_cons.mpr ⟨zyx773_k34 E, fun _ h => absurd h List.not_mem_nil⟩) zyx773c35 _ (List.mem_of_getElem? (i := 0) rfl)
theorem zyx773c36 : zchkX [] zprog2 (zovW []) 100000 k2X3_reckonDownTo [zyx773q35] [zyx773q36] [zyx773q36] = true := zall_ok zyg34_ok (k := 36) (a := zbzyx773c36) rfl
theorem zyx773_k36 {l : Launch} {D : va_G} {tys : List (ClassId × FieldType)} {o : zO} {z : Nat} (E : zEnv tys) : zPtOk l D vwCl tys o z (zXX o z) zTs m2X3_reckonDownTo zyx773q36 := zkn_pt E (fun g => fun _ h => absurd h List.not_mem_nil) (show zget zprog2 54 = some m2X3_reckonDownTo from rfl) (List.forall_mem_cons.mpr ⟨zyx773_k35 E, fun _ h => absurd h List.not_mem_nil⟩) zyx773c36 _ (List.mem_of_getElem? (i := 0) rfl)
theorem zyx773c37 : zchkX [] zprog2 (zovW []) 100000 k2X3_reckonDownTo [zyx773q36] [zyx773q37] [zyx773q37] = true := zall_ok zyg34_ok (k := 37) (a := zbzyx773c37) rfl
theorem zyx773_k37 {l : Launch} {D : va_G} {tys : List (ClassId × FieldType)} {o : zO} {z : Nat} (E : zEnv tys) : zPtOk l D vwCl tys o z (zXX o z) zTs m2X3_reckonDownTo zyx773q37 := zkn_pt E (fun g => fun _ h => absurd h List.not_mem_nil) (show zget zprog2 54 = some m2X3_reckonDownTo from rfl) (List.forall_mem_cons.mpr ⟨zyx773_k36 E, fun _ h => absurd h List.not_mem_nil⟩) zyx773c37 _ (List.mem_of_getElem? (i := 0) rfl)
theorem zyx773c38 : zchkX [] zprog2 (zovW []) 100000 k2X3_reckonDownTo [zyx773q37] [zyx773q38] [zyx773q38] = true := zall_ok zyg34_ok (k := 38) (a := zbzyx773c38) rfl
theorem zyx773_k38 {l : Launch} {D : va_G} {tys : List (ClassId × FieldType)} {o : zO} {z : Nat} (E : zEnv tys) : zPtOk l D vwCl tys o z (zXX o z) zTs m2X3_reckonDownTo zyx773q38 := zkn_pt E (fun g => fun _ h => absurd h List.not_mem_nil) (show zget zprog2 54 = some m2X3_reckonDownTo from rfl) (List.forall_mem_cons.mpr ⟨zyx773_k37 E, fun _ h => absurd h List.not_mem_nil⟩) zyx773c38 _ (List.mem_of_getElem? (i := 0) rfl)
theorem zyx773c39 : zchkX [] zprog2 (zovW []) 100000 k2X3_reckonDownTo [zyx773q38] [zyx773q39] [zyx773q39] = true := zall_ok zyg34_ok (k := 39) (a := zbzyx773c39) rfl
theorem zyx773_k39 {l : Launch} {D : va_G} {tys : List (ClassId × FieldType)} {o : zO} {z : Nat} (E : zEnv tys) : zPtOk l D vwCl tys o z (zXX o z) zTs m2X3_reckonDownTo zyx773q39 := zkn_pt E (fun g => fun _ h => absurd h List.not_mem_nil) (show zget zprog2 54 = some m2X3_reckonDownTo from rfl) (List.forall_mem_cons.mpr ⟨zyx773_k38 E, fun _ h => absurd h List.not_mem_nil⟩) zyx773c39 _ (List.mem_of_getElem? (i := 0) rfl)
theorem zyx773e : zrunw zprog2 (zovW []) 100000 (zcutW [] none ((zyx773r, zyh851), 3, 420) [zyx773q39]) 3 420 k2X3_reckonDownTo (zkin zyx773r zyh851) 0 (zargs 0 zyx773a, [], (zyh0.1, zyh0.2.1, 0), 0, 0) = true := zall_ok zyg34_ok (k := 40) (a := zbzyx773e) rfl
theorem zyx773 {l : Launch} {D : va_G} {tys : List (ClassId × FieldType)} {o : zO} {z : Nat} (E : zEnv tys) : zKnW l D vwCl tys o z (zXX o z) zTs zprog2 zyx773d :=
  zkn_mk E (fun g => fun _ h => absurd h List.not_mem_nil) (show zget zprog2 54 = some m2X3_reckonDownTo from rfl) rfl (by decide) (by decide) (by decide) (by decide) (G := [zyx773q39]) (List.forall_mem_cons.mpr ⟨zyx773_k39 E, fun _ h => absurd h List.not_mem_nil⟩) zyx773e

