def zym96 : Nat := 21739857325218978463394402678560151156011129329729828067427207327364959934613876965001142397294821927632088417612646181547755021744364740610505318750894402434128346027092033555518903661374049618451458039625798579485912199020196325754610497257714062006742893904040249061399904540875804047227748405849569924071167594281319047894854261217235964164640997738717437740918194519322958525351877135224143393570237626108012308795336396849904382501357852655458841472138690150710623312536806704449371549656583451099382911239038530724470844442279945810490246682734287088170723598172991232141096002018661707412668875848061310605771756599722946610002733382323408638990075756255950932926693233979678731220914312571331685496445113423544895491173665228635626713231293750195017247323436855274962713554910642850243720798379294443213597134732483310713345761213077418739012653839970924198972036399500869981657146073308323234485137400659757503855049593564857222178893188366071602853505203871067657204475216435239557122995552438955664237349297266607104396234539786174910279254145166897447368260267230184545537625712689612667281313925490144927369809476702097356957633284497152614560495703295853716316165790935228437380165562421433550881036917618085404505545683800016491975779610020145459088070720922496810332681692395534426428127136101146627423399349146652647852455618044307405876456071009249106584635417494864240664035740829494009843575434710805219708852252895782796293160147883333363211681624207640502355045458786027898707479184843613136068267962932211592138916480394880192669525322572434861662853738158120392169814450072043894425605053087744
noncomputable def zyh851 : zH := (126, [zyr0, zyr1, zyr2, zyr3, zyr4, zyr5, zyr6, zyr7], zym96)
noncomputable def zyc745 : zC := .inr (3, [zyv106, zyv107, zyv108, zyv109, zyv315, zyv128, zyv29, zyv15, zyv36])
noncomputable def zyr671 : List zC := [zyc46, zyc46, zyc47, zyc745, zyc10, zyc11, zyc10, zyc12, zyc49, zyc14, zyc15, zyc50, zyc14, zyc15, zyc51, zyc52]
noncomputable def zyh852 : zH := (126, [zyr0, zyr1, zyr2, zyr3, zyr4, zyr671, zyr6, zyr7], zym96)
noncomputable def zyc746 : zC := .inr (3, [zyv106, zyv107, zyv108, zyv109, zyv357, zyv36, zyv29, zyv15, zyv36])
noncomputable def zyr672 : List zC := [zyc46, zyc46, zyc47, zyc746, zyc10, zyc11, zyc10, zyc12, zyc49, zyc14, zyc15, zyc50, zyc14, zyc15, zyc51, zyc52]
noncomputable def zyh853 : zH := (126, [zyr0, zyr1, zyr2, zyr3, zyr4, zyr672, zyr6, zyr7], zym96)
noncomputable def zyc747 : zC := .inr (3, [zyv106, zyv107, zyv108, zyv109, zyv356, zyv376, zyv29, zyv15, zyv36])
noncomputable def zyr673 : List zC := [zyc46, zyc46, zyc47, zyc747, zyc10, zyc11, zyc10, zyc12, zyc49, zyc14, zyc15, zyc50, zyc14, zyc15, zyc51, zyc52]
noncomputable def zyh854 : zH := (126, [zyr0, zyr1, zyr2, zyr3, zyr4, zyr673, zyr6, zyr7], zym96)
noncomputable def zyc748 : zC := .inr (3, [zyv106, zyv107, zyv108, zyv109, zyv355, zyv427, zyv29, zyv15, zyv36])
noncomputable def zyr674 : List zC := [zyc46, zyc46, zyc47, zyc748, zyc10, zyc11, zyc10, zyc12, zyc49, zyc14, zyc15, zyc50, zyc14, zyc15, zyc51, zyc52]
noncomputable def zyh855 : zH := (126, [zyr0, zyr1, zyr2, zyr3, zyr4, zyr674, zyr6, zyr7], zym96)
noncomputable def zyc749 : zC := .inr (3, [zyv106, zyv107, zyv108, zyv109, zyv354, zyv29, zyv29, zyv15, zyv36])
noncomputable def zyr675 : List zC := [zyc46, zyc46, zyc47, zyc749, zyc10, zyc11, zyc10, zyc12, zyc49, zyc14, zyc15, zyc50, zyc14, zyc15, zyc51, zyc52]
noncomputable def zyh856 : zH := (126, [zyr0, zyr1, zyr2, zyr3, zyr4, zyr675, zyr6, zyr7], zym96)
noncomputable def zyc750 : zC := .inr (3, [zyv106, zyv107, zyv108, zyv109, zyv353, zyv428, zyv29, zyv15, zyv36])
noncomputable def zyr676 : List zC := [zyc46, zyc46, zyc47, zyc750, zyc10, zyc11, zyc10, zyc12, zyc49, zyc14, zyc15, zyc50, zyc14, zyc15, zyc51, zyc52]
noncomputable def zyh857 : zH := (126, [zyr0, zyr1, zyr2, zyr3, zyr4, zyr676, zyr6, zyr7], zym96)
noncomputable def zyc751 : zC := .inr (3, [zyv106, zyv107, zyv108, zyv109, zyv352, zyv429, zyv29, zyv15, zyv36])
noncomputable def zyr677 : List zC := [zyc46, zyc46, zyc47, zyc751, zyc10, zyc11, zyc10, zyc12, zyc49, zyc14, zyc15, zyc50, zyc14, zyc15, zyc51, zyc52]
noncomputable def zyh858 : zH := (126, [zyr0, zyr1, zyr2, zyr3, zyr4, zyr677, zyr6, zyr7], zym96)
noncomputable def zyc752 : zC := .inr (3, [zyv106, zyv107, zyv108, zyv109, zyv351, zyv101, zyv29, zyv15, zyv36])
noncomputable def zyr678 : List zC := [zyc46, zyc46, zyc47, zyc752, zyc10, zyc11, zyc10, zyc12, zyc49, zyc14, zyc15, zyc50, zyc14, zyc15, zyc51, zyc52]
noncomputable def zyh859 : zH := (126, [zyr0, zyr1, zyr2, zyr3, zyr4, zyr678, zyr6, zyr7], zym96)
noncomputable def zyc753 : zC := .inr (3, [zyv106, zyv107, zyv108, zyv109, zyv350, zyv25, zyv29, zyv15, zyv36])
noncomputable def zyr679 : List zC := [zyc46, zyc46, zyc47, zyc753, zyc10, zyc11, zyc10, zyc12, zyc49, zyc14, zyc15, zyc50, zyc14, zyc15, zyc51, zyc52]
noncomputable def zyh860 : zH := (126, [zyr0, zyr1, zyr2, zyr3, zyr4, zyr679, zyr6, zyr7], zym96)
noncomputable def zyc754 : zC := .inr (3, [zyv106, zyv107, zyv108, zyv109, zyv349, zyv27, zyv29, zyv15, zyv36])
noncomputable def zyr680 : List zC := [zyc46, zyc46, zyc47, zyc754, zyc10, zyc11, zyc10, zyc12, zyc49, zyc14, zyc15, zyc50, zyc14, zyc15, zyc51, zyc52]
noncomputable def zyh861 : zH := (126, [zyr0, zyr1, zyr2, zyr3, zyr4, zyr680, zyr6, zyr7], zym96)
def zyv430 : zAV := .inl ((.ofNat 0, .ofNat 10), none)
noncomputable def zyc755 : zC := .inr (3, [zyv106, zyv107, zyv108, zyv109, zyv348, zyv430, zyv29, zyv15, zyv36])
noncomputable def zyr681 : List zC := [zyc46, zyc46, zyc47, zyc755, zyc10, zyc11, zyc10, zyc12, zyc49, zyc14, zyc15, zyc50, zyc14, zyc15, zyc51, zyc52]
noncomputable def zyh862 : zH := (126, [zyr0, zyr1, zyr2, zyr3, zyr4, zyr681, zyr6, zyr7], zym96)
noncomputable def zyc756 : zC := .inr (3, [zyv106, zyv107, zyv108, zyv109, zyv347, zyv47, zyv29, zyv15, zyv36])
noncomputable def zyr682 : List zC := [zyc46, zyc46, zyc47, zyc756, zyc10, zyc11, zyc10, zyc12, zyc49, zyc14, zyc15, zyc50, zyc14, zyc15, zyc51, zyc52]
noncomputable def zyh863 : zH := (126, [zyr0, zyr1, zyr2, zyr3, zyr4, zyr682, zyr6, zyr7], zym96)
noncomputable def zyc757 : zC := .inr (3, [zyv106, zyv107, zyv108, zyv109, zyv346, zyv13, zyv29, zyv15, zyv36])
noncomputable def zyr683 : List zC := [zyc46, zyc46, zyc47, zyc757, zyc10, zyc11, zyc10, zyc12, zyc49, zyc14, zyc15, zyc50, zyc14, zyc15, zyc51, zyc52]
noncomputable def zyh864 : zH := (126, [zyr0, zyr1, zyr2, zyr3, zyr4, zyr683, zyr6, zyr7], zym96)
def zyv431 : zAV := .inl ((.ofNat 0, .ofNat 13), none)
noncomputable def zyc758 : zC := .inr (3, [zyv106, zyv107, zyv108, zyv109, zyv345, zyv431, zyv29, zyv15, zyv36])
noncomputable def zyr684 : List zC := [zyc46, zyc46, zyc47, zyc758, zyc10, zyc11, zyc10, zyc12, zyc49, zyc14, zyc15, zyc50, zyc14, zyc15, zyc51, zyc52]
noncomputable def zyh865 : zH := (126, [zyr0, zyr1, zyr2, zyr3, zyr4, zyr684, zyr6, zyr7], zym96)
def zyv432 : zAV := .inl ((.ofNat 0, .ofNat 14), none)
noncomputable def zyc759 : zC := .inr (3, [zyv106, zyv107, zyv108, zyv109, zyv344, zyv432, zyv29, zyv15, zyv36])
noncomputable def zyr685 : List zC := [zyc46, zyc46, zyc47, zyc759, zyc10, zyc11, zyc10, zyc12, zyc49, zyc14, zyc15, zyc50, zyc14, zyc15, zyc51, zyc52]
noncomputable def zyh866 : zH := (126, [zyr0, zyr1, zyr2, zyr3, zyr4, zyr685, zyr6, zyr7], zym96)
def zyv433 : zAV := .inl ((.ofNat 0, .ofNat 15), none)
noncomputable def zyc760 : zC := .inr (3, [zyv106, zyv107, zyv108, zyv109, zyv343, zyv433, zyv29, zyv15, zyv36])
noncomputable def zyr686 : List zC := [zyc46, zyc46, zyc47, zyc760, zyc10, zyc11, zyc10, zyc12, zyc49, zyc14, zyc15, zyc50, zyc14, zyc15, zyc51, zyc52]
noncomputable def zyh867 : zH := (126, [zyr0, zyr1, zyr2, zyr3, zyr4, zyr686, zyr6, zyr7], zym96)
def zyv434 : zAV := .inl ((.ofNat 0, .ofNat 16), none)
noncomputable def zyc761 : zC := .inr (3, [zyv106, zyv107, zyv108, zyv109, zyv342, zyv434, zyv29, zyv15, zyv36])
noncomputable def zyr687 : List zC := [zyc46, zyc46, zyc47, zyc761, zyc10, zyc11, zyc10, zyc12, zyc49, zyc14, zyc15, zyc50, zyc14, zyc15, zyc51, zyc52]
noncomputable def zyh868 : zH := (126, [zyr0, zyr1, zyr2, zyr3, zyr4, zyr687, zyr6, zyr7], zym96)
def zyv435 : zAV := .inl ((.ofNat 0, .ofNat 17), none)
noncomputable def zyc762 : zC := .inr (3, [zyv106, zyv107, zyv108, zyv109, zyv341, zyv435, zyv29, zyv15, zyv36])
noncomputable def zyr688 : List zC := [zyc46, zyc46, zyc47, zyc762, zyc10, zyc11, zyc10, zyc12, zyc49, zyc14, zyc15, zyc50, zyc14, zyc15, zyc51, zyc52]
noncomputable def zyh869 : zH := (126, [zyr0, zyr1, zyr2, zyr3, zyr4, zyr688, zyr6, zyr7], zym96)
def zyv436 : zAV := .inl ((.ofNat 0, .ofNat 18), none)
noncomputable def zyc763 : zC := .inr (3, [zyv106, zyv107, zyv108, zyv109, zyv340, zyv436, zyv29, zyv15, zyv36])
noncomputable def zyr689 : List zC := [zyc46, zyc46, zyc47, zyc763, zyc10, zyc11, zyc10, zyc12, zyc49, zyc14, zyc15, zyc50, zyc14, zyc15, zyc51, zyc52]
noncomputable def zyh870 : zH := (126, [zyr0, zyr1, zyr2, zyr3, zyr4, zyr689, zyr6, zyr7], zym96)
def zyv437 : zAV := .inl ((.ofNat 0, .ofNat 19), none)
noncomputable def zyc764 : zC := .inr (3, [zyv106, zyv107, zyv108, zyv109, zyv339, zyv437, zyv29, zyv15, zyv36])
noncomputable def zyr690 : List zC := [zyc46, zyc46, zyc47, zyc764, zyc10, zyc11, zyc10, zyc12, zyc49, zyc14, zyc15, zyc50, zyc14, zyc15, zyc51, zyc52]
noncomputable def zyh871 : zH := (126, [zyr0, zyr1, zyr2, zyr3, zyr4, zyr690, zyr6, zyr7], zym96)
def zyv438 : zAV := .inl ((.ofNat 0, .ofNat 20), none)
noncomputable def zyc765 : zC := .inr (3, [zyv106, zyv107, zyv108, zyv109, zyv338, zyv438, zyv29, zyv15, zyv36])
noncomputable def zyr691 : List zC := [zyc46, zyc46, zyc47, zyc765, zyc10, zyc11, zyc10, zyc12, zyc49, zyc14, zyc15, zyc50, zyc14, zyc15, zyc51, zyc52]
noncomputable def zyh872 : zH := (126, [zyr0, zyr1, zyr2, zyr3, zyr4, zyr691, zyr6, zyr7], zym96)
def zyv439 : zAV := .inl ((.ofNat 0, .ofNat 21), none)
noncomputable def zyc766 : zC := .inr (3, [zyv106, zyv107, zyv108, zyv109, zyv337, zyv439, zyv29, zyv15, zyv36])
noncomputable def zyr692 : List zC := [zyc46, zyc46, zyc47, zyc766, zyc10, zyc11, zyc10, zyc12, zyc49, zyc14, zyc15, zyc50, zyc14, zyc15, zyc51, zyc52]
noncomputable def zyh873 : zH := (126, [zyr0, zyr1, zyr2, zyr3, zyr4, zyr692, zyr6, zyr7], zym96)
def zyv440 : zAV := .inl ((.ofNat 0, .ofNat 22), none)
noncomputable def zyc767 : zC := .inr (3, [zyv106, zyv107, zyv108, zyv109, zyv336, zyv440, zyv29, zyv15, zyv36])
noncomputable def zyr693 : List zC := [zyc46, zyc46, zyc47, zyc767, zyc10, zyc11, zyc10, zyc12, zyc49, zyc14, zyc15, zyc50, zyc14, zyc15, zyc51, zyc52]
noncomputable def zyh874 : zH := (126, [zyr0, zyr1, zyr2, zyr3, zyr4, zyr693, zyr6, zyr7], zym96)
def zyv441 : zAV := .inl ((.ofNat 0, .ofNat 23), none)
noncomputable def zyc768 : zC := .inr (3, [zyv106, zyv107, zyv108, zyv109, zyv335, zyv441, zyv29, zyv15, zyv36])
noncomputable def zyr694 : List zC := [zyc46, zyc46, zyc47, zyc768, zyc10, zyc11, zyc10, zyc12, zyc49, zyc14, zyc15, zyc50, zyc14, zyc15, zyc51, zyc52]
noncomputable def zyh875 : zH := (126, [zyr0, zyr1, zyr2, zyr3, zyr4, zyr694, zyr6, zyr7], zym96)
def zyv442 : zAV := .inl ((.ofNat 0, .ofNat 24), none)
noncomputable def zyc769 : zC := .inr (3, [zyv106, zyv107, zyv108, zyv109, zyv334, zyv442, zyv29, zyv15, zyv36])
noncomputable def zyr695 : List zC := [zyc46, zyc46, zyc47, zyc769, zyc10, zyc11, zyc10, zyc12, zyc49, zyc14, zyc15, zyc50, zyc14, zyc15, zyc51, zyc52]
noncomputable def zyh876 : zH := (126, [zyr0, zyr1, zyr2, zyr3, zyr4, zyr695, zyr6, zyr7], zym96)
def zyv443 : zAV := .inl ((.ofNat 0, .ofNat 25), none)
noncomputable def zyc770 : zC := .inr (3, [zyv106, zyv107, zyv108, zyv109, zyv333, zyv443, zyv29, zyv15, zyv36])
noncomputable def zyr696 : List zC := [zyc46, zyc46, zyc47, zyc770, zyc10, zyc11, zyc10, zyc12, zyc49, zyc14, zyc15, zyc50, zyc14, zyc15, zyc51, zyc52]
noncomputable def zyh877 : zH := (126, [zyr0, zyr1, zyr2, zyr3, zyr4, zyr696, zyr6, zyr7], zym96)
def zyv444 : zAV := .inl ((.ofNat 0, .ofNat 26), none)
noncomputable def zyc771 : zC := .inr (3, [zyv106, zyv107, zyv108, zyv109, zyv332, zyv444, zyv29, zyv15, zyv36])
noncomputable def zyr697 : List zC := [zyc46, zyc46, zyc47, zyc771, zyc10, zyc11, zyc10, zyc12, zyc49, zyc14, zyc15, zyc50, zyc14, zyc15, zyc51, zyc52]
noncomputable def zyh878 : zH := (126, [zyr0, zyr1, zyr2, zyr3, zyr4, zyr697, zyr6, zyr7], zym96)
def zyv445 : zAV := .inl ((.ofNat 0, .ofNat 27), none)
noncomputable def zyc772 : zC := .inr (3, [zyv106, zyv107, zyv108, zyv109, zyv331, zyv445, zyv29, zyv15, zyv36])
noncomputable def zyr698 : List zC := [zyc46, zyc46, zyc47, zyc772, zyc10, zyc11, zyc10, zyc12, zyc49, zyc14, zyc15, zyc50, zyc14, zyc15, zyc51, zyc52]
noncomputable def zyh879 : zH := (126, [zyr0, zyr1, zyr2, zyr3, zyr4, zyr698, zyr6, zyr7], zym96)
def zyv446 : zAV := .inl ((.ofNat 0, .ofNat 28), none)
noncomputable def zyc773 : zC := .inr (3, [zyv106, zyv107, zyv108, zyv109, zyv330, zyv446, zyv29, zyv15, zyv36])
noncomputable def zyr699 : List zC := [zyc46, zyc46, zyc47, zyc773, zyc10, zyc11, zyc10, zyc12, zyc49, zyc14, zyc15, zyc50, zyc14, zyc15, zyc51, zyc52]
noncomputable def zyh880 : zH := (126, [zyr0, zyr1, zyr2, zyr3, zyr4, zyr699, zyr6, zyr7], zym96)
def zyv447 : zAV := .inl ((.ofNat 0, .ofNat 29), none)
noncomputable def zyc774 : zC := .inr (3, [zyv106, zyv107, zyv108, zyv109, zyv329, zyv447, zyv29, zyv15, zyv36])
noncomputable def zyr700 : List zC := [zyc46, zyc46, zyc47, zyc774, zyc10, zyc11, zyc10, zyc12, zyc49, zyc14, zyc15, zyc50, zyc14, zyc15, zyc51, zyc52]
noncomputable def zyh881 : zH := (126, [zyr0, zyr1, zyr2, zyr3, zyr4, zyr700, zyr6, zyr7], zym96)
def zyv448 : zAV := .inl ((.ofNat 0, .ofNat 30), none)
noncomputable def zyc775 : zC := .inr (3, [zyv106, zyv107, zyv108, zyv109, zyv328, zyv448, zyv29, zyv15, zyv36])
noncomputable def zyr701 : List zC := [zyc46, zyc46, zyc47, zyc775, zyc10, zyc11, zyc10, zyc12, zyc49, zyc14, zyc15, zyc50, zyc14, zyc15, zyc51, zyc52]
noncomputable def zyh882 : zH := (126, [zyr0, zyr1, zyr2, zyr3, zyr4, zyr701, zyr6, zyr7], zym96)
def zyv449 : zAV := .inl ((.ofNat 0, .ofNat 31), none)
noncomputable def zyc776 : zC := .inr (3, [zyv106, zyv107, zyv108, zyv109, zyv327, zyv449, zyv29, zyv15, zyv36])
noncomputable def zyr702 : List zC := [zyc46, zyc46, zyc47, zyc776, zyc10, zyc11, zyc10, zyc12, zyc49, zyc14, zyc15, zyc50, zyc14, zyc15, zyc51, zyc52]
noncomputable def zyh883 : zH := (126, [zyr0, zyr1, zyr2, zyr3, zyr4, zyr702, zyr6, zyr7], zym96)
def zyv450 : zAV := .inl ((.ofNat 0, .ofNat 32), none)
noncomputable def zyc777 : zC := .inr (3, [zyv106, zyv107, zyv108, zyv109, zyv326, zyv450, zyv29, zyv15, zyv36])
noncomputable def zyr703 : List zC := [zyc46, zyc46, zyc47, zyc777, zyc10, zyc11, zyc10, zyc12, zyc49, zyc14, zyc15, zyc50, zyc14, zyc15, zyc51, zyc52]
noncomputable def zyh884 : zH := (126, [zyr0, zyr1, zyr2, zyr3, zyr4, zyr703, zyr6, zyr7], zym96)
def zyv451 : zAV := .inl ((.ofNat 0, .ofNat 33), none)
noncomputable def zyc778 : zC := .inr (3, [zyv106, zyv107, zyv108, zyv109, zyv325, zyv451, zyv29, zyv15, zyv36])
noncomputable def zyr704 : List zC := [zyc46, zyc46, zyc47, zyc778, zyc10, zyc11, zyc10, zyc12, zyc49, zyc14, zyc15, zyc50, zyc14, zyc15, zyc51, zyc52]
noncomputable def zyh885 : zH := (126, [zyr0, zyr1, zyr2, zyr3, zyr4, zyr704, zyr6, zyr7], zym96)
def zyv452 : zAV := .inl ((.ofNat 0, .ofNat 34), none)
noncomputable def zyc779 : zC := .inr (3, [zyv106, zyv107, zyv108, zyv109, zyv324, zyv452, zyv29, zyv15, zyv36])
noncomputable def zyr705 : List zC := [zyc46, zyc46, zyc47, zyc779, zyc10, zyc11, zyc10, zyc12, zyc49, zyc14, zyc15, zyc50, zyc14, zyc15, zyc51, zyc52]
noncomputable def zyh886 : zH := (126, [zyr0, zyr1, zyr2, zyr3, zyr4, zyr705, zyr6, zyr7], zym96)
def zyv453 : zAV := .inl ((.ofNat 0, .ofNat 35), none)
noncomputable def zyc780 : zC := .inr (3, [zyv106, zyv107, zyv108, zyv109, zyv323, zyv453, zyv29, zyv15, zyv36])
noncomputable def zyr706 : List zC := [zyc46, zyc46, zyc47, zyc780, zyc10, zyc11, zyc10, zyc12, zyc49, zyc14, zyc15, zyc50, zyc14, zyc15, zyc51, zyc52]
noncomputable def zyh887 : zH := (126, [zyr0, zyr1, zyr2, zyr3, zyr4, zyr706, zyr6, zyr7], zym96)
def zyv454 : zAV := .inl ((.ofNat 0, .ofNat 36), none)
noncomputable def zyc781 : zC := .inr (3, [zyv106, zyv107, zyv108, zyv109, zyv322, zyv454, zyv29, zyv15, zyv36])
noncomputable def zyr707 : List zC := [zyc46, zyc46, zyc47, zyc781, zyc10, zyc11, zyc10, zyc12, zyc49, zyc14, zyc15, zyc50, zyc14, zyc15, zyc51, zyc52]
noncomputable def zyh888 : zH := (126, [zyr0, zyr1, zyr2, zyr3, zyr4, zyr707, zyr6, zyr7], zym96)
def zyv455 : zAV := .inl ((.ofNat 0, .ofNat 37), none)
noncomputable def zyc782 : zC := .inr (3, [zyv106, zyv107, zyv108, zyv109, zyv321, zyv455, zyv29, zyv15, zyv36])
noncomputable def zyr708 : List zC := [zyc46, zyc46, zyc47, zyc782, zyc10, zyc11, zyc10, zyc12, zyc49, zyc14, zyc15, zyc50, zyc14, zyc15, zyc51, zyc52]
noncomputable def zyh889 : zH := (126, [zyr0, zyr1, zyr2, zyr3, zyr4, zyr708, zyr6, zyr7], zym96)
def zyv456 : zAV := .inl ((.ofNat 0, .ofNat 38), none)
noncomputable def zyc783 : zC := .inr (3, [zyv106, zyv107, zyv108, zyv109, zyv320, zyv456, zyv29, zyv15, zyv36])
noncomputable def zyr709 : List zC := [zyc46, zyc46, zyc47, zyc783, zyc10, zyc11, zyc10, zyc12, zyc49, zyc14, zyc15, zyc50, zyc14, zyc15, zyc51, zyc52]
noncomputable def zyh890 : zH := (126, [zyr0, zyr1, zyr2, zyr3, zyr4, zyr709, zyr6, zyr7], zym96)
def zyv457 : zAV := .inl ((.ofNat 0, .ofNat 39), none)
noncomputable def zyc784 : zC := .inr (3, [zyv106, zyv107, zyv108, zyv109, zyv318, zyv457, zyv29, zyv15, zyv36])
noncomputable def zyr710 : List zC := [zyc46, zyc46, zyc47, zyc784, zyc10, zyc11, zyc10, zyc12, zyc49, zyc14, zyc15, zyc50, zyc14, zyc15, zyc51, zyc52]
noncomputable def zyh891 : zH := (126, [zyr0, zyr1, zyr2, zyr3, zyr4, zyr710, zyr6, zyr7], zym96)
/-! X3_reckonDownTo -/
noncomputable def zyx773a : List zAV := [.inr (.inr (.inl 83)), .inl ((.ofNat 1, .ofNat 3), none)]
def zyx773r : Option zAV := none
noncomputable def zyx773p : List zPw := [((0, ([(0, .inr (.inr (.inl 83))), (1, .inl ((.ofNat 1, .ofNat 3), some (1, .ofNat 0)))], [], zyh852, 0, 0), [], .ofNat 1), (zyx773r, zyh851), 3, 420),
  ((0, ([(0, .inr (.inr (.inl 83))), (1, .inl ((.ofNat 1, .ofNat 3), some (1, .ofNat 0)))], [], zyh853, 0, 0), [], .ofNat 3), (zyx773r, zyh851), 3, 420),
  ((0, ([(0, .inr (.inr (.inl 83))), (1, .inl ((.ofNat 1, .ofNat 3), some (1, .ofNat 0)))], [], zyh854, 0, 0), [], .ofNat 5), (zyx773r, zyh851), 3, 420),
  ((0, ([(0, .inr (.inr (.inl 83))), (1, .inl ((.ofNat 1, .ofNat 3), some (1, .ofNat 0)))], [], zyh855, 0, 0), [], .ofNat 7), (zyx773r, zyh851), 3, 420),
  ((0, ([(0, .inr (.inr (.inl 83))), (1, .inl ((.ofNat 1, .ofNat 3), some (1, .ofNat 0)))], [], zyh856, 0, 0), [], .ofNat 9), (zyx773r, zyh851), 3, 420),
  ((0, ([(0, .inr (.inr (.inl 83))), (1, .inl ((.ofNat 1, .ofNat 3), some (1, .ofNat 0)))], [], zyh857, 0, 0), [], .ofNat 11), (zyx773r, zyh851), 3, 420),
  ((0, ([(0, .inr (.inr (.inl 83))), (1, .inl ((.ofNat 1, .ofNat 3), some (1, .ofNat 0)))], [], zyh858, 0, 0), [], .ofNat 13), (zyx773r, zyh851), 3, 420),
  ((0, ([(0, .inr (.inr (.inl 83))), (1, .inl ((.ofNat 1, .ofNat 3), some (1, .ofNat 0)))], [], zyh859, 0, 0), [], .ofNat 15), (zyx773r, zyh851), 3, 420),
  ((0, ([(0, .inr (.inr (.inl 83))), (1, .inl ((.ofNat 1, .ofNat 3), some (1, .ofNat 0)))], [], zyh860, 0, 0), [], .ofNat 17), (zyx773r, zyh851), 3, 420),
  ((0, ([(0, .inr (.inr (.inl 83))), (1, .inl ((.ofNat 1, .ofNat 3), some (1, .ofNat 0)))], [], zyh861, 0, 0), [], .ofNat 19), (zyx773r, zyh851), 3, 420),
  ((0, ([(0, .inr (.inr (.inl 83))), (1, .inl ((.ofNat 1, .ofNat 3), some (1, .ofNat 0)))], [], zyh862, 0, 0), [], .ofNat 21), (zyx773r, zyh851), 3, 420),
  ((0, ([(0, .inr (.inr (.inl 83))), (1, .inl ((.ofNat 1, .ofNat 3), some (1, .ofNat 0)))], [], zyh863, 0, 0), [], .ofNat 23), (zyx773r, zyh851), 3, 420),
  ((0, ([(0, .inr (.inr (.inl 83))), (1, .inl ((.ofNat 1, .ofNat 3), some (1, .ofNat 0)))], [], zyh864, 0, 0), [], .ofNat 25), (zyx773r, zyh851), 3, 420),
  ((0, ([(0, .inr (.inr (.inl 83))), (1, .inl ((.ofNat 1, .ofNat 3), some (1, .ofNat 0)))], [], zyh865, 0, 0), [], .ofNat 27), (zyx773r, zyh851), 3, 420),
  ((0, ([(0, .inr (.inr (.inl 83))), (1, .inl ((.ofNat 1, .ofNat 3), some (1, .ofNat 0)))], [], zyh866, 0, 0), [], .ofNat 29), (zyx773r, zyh851), 3, 420),
  ((0, ([(0, .inr (.inr (.inl 83))), (1, .inl ((.ofNat 1, .ofNat 3), some (1, .ofNat 0)))], [], zyh867, 0, 0), [], .ofNat 31), (zyx773r, zyh851), 3, 420),
  ((0, ([(0, .inr (.inr (.inl 83))), (1, .inl ((.ofNat 1, .ofNat 3), some (1, .ofNat 0)))], [], zyh868, 0, 0), [], .ofNat 33), (zyx773r, zyh851), 3, 420),
  ((0, ([(0, .inr (.inr (.inl 83))), (1, .inl ((.ofNat 1, .ofNat 3), some (1, .ofNat 0)))], [], zyh869, 0, 0), [], .ofNat 35), (zyx773r, zyh851), 3, 420),
  ((0, ([(0, .inr (.inr (.inl 83))), (1, .inl ((.ofNat 1, .ofNat 3), some (1, .ofNat 0)))], [], zyh870, 0, 0), [], .ofNat 37), (zyx773r, zyh851), 3, 420),
  ((0, ([(0, .inr (.inr (.inl 83))), (1, .inl ((.ofNat 1, .ofNat 3), some (1, .ofNat 0)))], [], zyh871, 0, 0), [], .ofNat 39), (zyx773r, zyh851), 3, 420),
  ((0, ([(0, .inr (.inr (.inl 83))), (1, .inl ((.ofNat 1, .ofNat 3), some (1, .ofNat 0)))], [], zyh872, 0, 0), [], .ofNat 41), (zyx773r, zyh851), 3, 420),
  ((0, ([(0, .inr (.inr (.inl 83))), (1, .inl ((.ofNat 1, .ofNat 3), some (1, .ofNat 0)))], [], zyh873, 0, 0), [], .ofNat 43), (zyx773r, zyh851), 3, 420),
  ((0, ([(0, .inr (.inr (.inl 83))), (1, .inl ((.ofNat 1, .ofNat 3), some (1, .ofNat 0)))], [], zyh874, 0, 0), [], .ofNat 45), (zyx773r, zyh851), 3, 420),
  ((0, ([(0, .inr (.inr (.inl 83))), (1, .inl ((.ofNat 1, .ofNat 3), some (1, .ofNat 0)))], [], zyh875, 0, 0), [], .ofNat 47), (zyx773r, zyh851), 3, 420),
  ((0, ([(0, .inr (.inr (.inl 83))), (1, .inl ((.ofNat 1, .ofNat 3), some (1, .ofNat 0)))], [], zyh876, 0, 0), [], .ofNat 49), (zyx773r, zyh851), 3, 420),
  ((0, ([(0, .inr (.inr (.inl 83))), (1, .inl ((.ofNat 1, .ofNat 3), some (1, .ofNat 0)))], [], zyh877, 0, 0), [], .ofNat 51), (zyx773r, zyh851), 3, 420),
  ((0, ([(0, .inr (.inr (.inl 83))), (1, .inl ((.ofNat 1, .ofNat 3), some (1, .ofNat 0)))], [], zyh878, 0, 0), [], .ofNat 53), (zyx773r, zyh851), 3, 420),
  ((0, ([(0, .inr (.inr (.inl 83))), (1, .inl ((.ofNat 1, .ofNat 3), some (1, .ofNat 0)))], [], zyh879, 0, 0), [], .ofNat 55), (zyx773r, zyh851), 3, 420),
  ((0, ([(0, .inr (.inr (.inl 83))), (1, .inl ((.ofNat 1, .ofNat 3), some (1, .ofNat 0)))], [], zyh880, 0, 0), [], .ofNat 57), (zyx773r, zyh851), 3, 420),
  ((0, ([(0, .inr (.inr (.inl 83))), (1, .inl ((.ofNat 1, .ofNat 3), some (1, .ofNat 0)))], [], zyh881, 0, 0), [], .ofNat 59), (zyx773r, zyh851), 3, 420),
  ((0, ([(0, .inr (.inr (.inl 83))), (1, .inl ((.ofNat 1, .ofNat 3), some (1, .ofNat 0)))], [], zyh882, 0, 0), [], .ofNat 61), (zyx773r, zyh851), 3, 420),
  ((0, ([(0, .inr (.inr (.inl 83))), (1, .inl ((.ofNat 1, .ofNat 3), some (1, .ofNat 0)))], [], zyh883, 0, 0), [], .ofNat 63), (zyx773r, zyh851), 3, 420),
  ((0, ([(0, .inr (.inr (.inl 83))), (1, .inl ((.ofNat 1, .ofNat 3), some (1, .ofNat 0)))], [], zyh884, 0, 0), [], .ofNat 65), (zyx773r, zyh851), 3, 420),
  ((0, ([(0, .inr (.inr (.inl 83))), (1, .inl ((.ofNat 1, .ofNat 3), some (1, .ofNat 0)))], [], zyh885, 0, 0), [], .ofNat 67), (zyx773r, zyh851), 3, 420),
  ((0, ([(0, .inr (.inr (.inl 83))), (1, .inl ((.ofNat 1, .ofNat 3), some (1, .ofNat 0)))], [], zyh886, 0, 0), [], .ofNat 69), (zyx773r, zyh851), 3, 420),
  ((0, ([(0, .inr (.inr (.inl 83))), (1, .inl ((.ofNat 1, .ofNat 3), some (1, .ofNat 0)))], [], zyh887, 0, 0), [], .ofNat 71), (zyx773r, zyh851), 3, 420),
  ((0, ([(0, .inr (.inr (.inl 83))), (1, .inl ((.ofNat 1, .ofNat 3), some (1, .ofNat 0)))], [], zyh888, 0, 0), [], .ofNat 73), (zyx773r, zyh851), 3, 420),
  ((0, ([(0, .inr (.inr (.inl 83))), (1, .inl ((.ofNat 1, .ofNat 3), some (1, .ofNat 0)))], [], zyh889, 0, 0), [], .ofNat 75), (zyx773r, zyh851), 3, 420),
  ((0, ([(0, .inr (.inr (.inl 83))), (1, .inl ((.ofNat 1, .ofNat 3), some (1, .ofNat 0)))], [], zyh890, 0, 0), [], .ofNat 77), (zyx773r, zyh851), 3, 420),
  ((0, ([(0, .inr (.inr (.inl 83))), (1, .inl ((.ofNat 1, .ofNat 3), some (1, .ofNat 0)))], [], zyh891, 0, 0), [], .ofNat 79), (zyx773r, zyh851), 3, 420)]
noncomputable def zyx773d : zKw := (54, 2, 3, 420, zyx773a, zyh0, [(zyx773r, zyh851)])
noncomputable def zbzyx773c : Bool := zchkX [] zprog2 (zovW []) 100000 k2X3_reckonDownTo [] zyx773p zyx773p
noncomputable def zbzyx773e : Bool := zrunw zprog2 (zovW []) 100000 (zcutW [] none ((zyx773r, zyh851), 3, 420) zyx773p) 3 420 k2X3_reckonDownTo (zkin zyx773r zyh851) 0 (zargs 0 zyx773a, [], (zyh0.1, zyh0.2.1, 0), 0, 0)
noncomputable def zyg34 : List Bool := [zbzyx773c, zbzyx773e]
set_option maxRecDepth 100000 in
theorem zyg34_ok : zall (fun b => b) zyg34 = true := by decide +kernel
theorem zyx773c : zchkX [] zprog2 (zovW []) 100000 k2X3_reckonDownTo [] zyx773p zyx773p = true := zall_ok zyg34_ok (k := 0) (a := zbzyx773c) rfl
theorem zyx773e : zrunw zprog2 (zovW []) 100000 (zcutW [] none ((zyx773r, zyh851), 3, 420) zyx773p) 3 420 k2X3_reckonDownTo (zkin zyx773r zyh851) 0 (zargs 0 zyx773a, [], (zyh0.1, zyh0.2.1, 0), 0, 0) = true := zall_ok zyg34_ok (k := 1) (a := zbzyx773e) rfl
theorem zyx773 {l : Launch} {D : va_G} {tys : List (ClassId × FieldType)} {o : zO} {z : Nat} (E : zEnv tys) : zKnW l D vwCl tys o z (zXX o z) zTs zprog2 zyx773d :=
  zkn_mk E (fun g => fun _ h => absurd h List.not_mem_nil) (show zget zprog2 54 = some m2X3_reckonDownTo from rfl) rfl (by decide) (by decide) (by decide) (by decide) (G := zyx773p) (zkn_pt E (fun g => fun _ h => absurd h List.not_mem_nil) (show zget zprog2 54 = some m2X3_reckonDownTo from rfl) (fun _ h => absurd h List.not_mem_nil) zyx773c) zyx773e

